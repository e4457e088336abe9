set_option maxRecDepth 100000 in
set_option maxHeartbeats 4000000 in
theorem K_DeedBook_36 {l : Launch} : CnI l yX1_init cX1_init 1 1 1 8 LK72 LK74 36 := by
  refine CnI.of (by decide +kernel) rfl (by decide) (fun Γ hl hC hR hkk hal hin hao => ?_)
  subst hl
  have E0 : ∀ i, i < 37 → gad Γ i = gad Γ i := fun _ _ => rfl
  replace hR : RXI Γ 37 1 8 (gad Γ) LK74 := hR
  replace hC : CX Γ cX1_init RX1 LK72 1 1 := hC
  show GX Γ LK72 _ _ [some (.ref (gad Γ 36))] [] μZ _
  refine GX_aload_n hC dX1_init_0 rfl ?_
  refine GX_oinit hC oiX1_3 (by decide) (Nat.le_of_ble_eq_true rfl) dX1_init_1 ?_
  refine GX_aload_n hC dX1_init_4 rfl ?_
  refine GX_iconst hC 0 dX1_init_5 rfl ?_
  refine GX_putI (a := 36) (L := LK72) (μ := μZ) (x := 0) hC fkX1_9 ftX1_0 (show LK72[36]? = some (.inl (1, [none, some none])) by decide +kernel) rfl dX1_init_6 ?_
  rw [show ∀ z w : Nat, si μZ z w 0 = μZ from si_Z]
  refine GX_aload_n hC dX1_init_9 rfl ?_
  refine GX_bipush hC 8 dX1_init_10 rfl ?_
  refine GX_newI hC 8 hal ac_int (by decide) rfl (by decide) (by decide +kernel) (hkk _ _ (by decide) (by decide)) dX1_init_12 (fun ad => [some (.ref (ad 36))]) (fun ad => [.ref (ad 36)]) rfl rfl (fun a b h => ⟨by first | rfl | simp only [h 36 (by decide +kernel)], by first | rfl | simp only [h 36 (by decide +kernel)]⟩) (fun ad1 e1 hC => ?_)
  have E1 : ∀ i, i < 37 → ad1 i = gad Γ i := fun i hi => (e1 i (Nat.lt_of_lt_of_le hi (by decide +kernel))).trans (E0 i hi)
  replace hC : CX (nG Γ ad1) cX1_init RX1 LK73 1 1 := hC
  show GX (nG Γ ad1) LK73 _ _ [some (.ref (ad1 36))] [.ref (ad1 37), .ref (ad1 36)] μZ _
  refine GX_putR (a := 36) (b := 37) (L := LK73) hC fkX1_15 (inInit_nG hin) (show vwCl[1]? = some (RX1, TX1, 2) from rfl) rfl rfl (tyX1_ok 1 (by decide)) (fun _ => rfl) (fun _ => rfl) (show LK73[36]? = some (.inl (1, [none, some none])) by decide +kernel) (by decide) dX1_init_14 (fun hC => ?_)
  replace hC : CX (nG Γ ad1) cX1_init RX1 LK74 1 1 := hC
  show GX (nG Γ ad1) LK74 _ _ [some (.ref (ad1 36))] [] μZ _
  exact GX_vretI hC (RXI_nG hR) E1 dX1_init_17
set_option maxRecDepth 100000 in
set_option maxHeartbeats 4000000 in
theorem K_Move_39 {l : Launch} : CnI l yX4_init cX4_init 1 1 0 0 LK77 LK77 39 := by
  refine CnI.of (by decide +kernel) rfl (by decide) (fun Γ hl hC hR hkk hal hin hao => ?_)
  subst hl
  have E0 : ∀ i, i < 40 → gad Γ i = gad Γ i := fun _ _ => rfl
  replace hR : RXI Γ 40 0 0 (gad Γ) LK77 := hR
  replace hC : CX Γ cX4_init RX4 LK77 1 1 := hC
  show GX Γ LK77 _ _ [some (.ref (gad Γ 39))] [] μZ _
  refine GX_aload_n hC dX4_init_0 rfl ?_
  refine GX_oinit hC oiX4_3 (by decide) (Nat.le_of_ble_eq_true rfl) dX4_init_1 ?_
  refine GX_aload_n hC dX4_init_4 rfl ?_
  refine GX_iconst hC 0 dX4_init_5 rfl ?_
  refine GX_putI (a := 39) (L := LK77) (μ := μZ) (x := 0) hC fkX4_9 ftX4_0 (show LK77[39]? = some (.inl (4, [none, none, none, none, none])) by decide +kernel) rfl dX4_init_6 ?_
  rw [show ∀ z w : Nat, si μZ z w 0 = μZ from si_Z]
  refine GX_aload_n hC dX4_init_9 rfl ?_
  refine GX_iconst hC 0 dX4_init_10 rfl ?_
  refine GX_putI (a := 39) (L := LK77) (μ := μZ) (x := 0) hC fkX4_15 ftX4_1 (show LK77[39]? = some (.inl (4, [none, none, none, none, none])) by decide +kernel) rfl dX4_init_11 ?_
  rw [show ∀ z w : Nat, si μZ z w 0 = μZ from si_Z]
  refine GX_aload_n hC dX4_init_14 rfl ?_
  refine GX_iconst hC 0 dX4_init_15 rfl ?_
  refine GX_putI (a := 39) (L := LK77) (μ := μZ) (x := 0) hC fkX4_18 ftX4_2 (show LK77[39]? = some (.inl (4, [none, none, none, none, none])) by decide +kernel) rfl dX4_init_16 ?_
  rw [show ∀ z w : Nat, si μZ z w 0 = μZ from si_Z]
  refine GX_aload_n hC dX4_init_19 rfl ?_
  refine GX_iconst hC 0 dX4_init_20 rfl ?_
  refine GX_putI (a := 39) (L := LK77) (μ := μZ) (x := 0) hC fkX4_21 ftX4_3 (show LK77[39]? = some (.inl (4, [none, none, none, none, none])) by decide +kernel) rfl dX4_init_21 ?_
  rw [show ∀ z w : Nat, si μZ z w 0 = μZ from si_Z]
  refine GX_aload_n hC dX4_init_24 rfl ?_
  refine GX_iconst hC 0 dX4_init_25 rfl ?_
  refine GX_putI (a := 39) (L := LK77) (μ := μZ) (x := 0) hC fkX4_24 ftX4_4 (show LK77[39]? = some (.inl (4, [none, none, none, none, none])) by decide +kernel) rfl dX4_init_26 ?_
  rw [show ∀ z w : Nat, si μZ z w 0 = μZ from si_Z]
  exact GX_vretI hC hR E0 dX4_init_29
set_option maxRecDepth 100000 in
set_option maxHeartbeats 4000000 in
theorem K_Shelf_38 {l : Launch} : CnI l yX8_init cX8_init 1 2 2 105 LK76 LK80 38 := by
  refine CnI.of (by decide +kernel) rfl (by decide) (fun Γ hl hC hR hkk hal hin hao => ?_)
  subst hl
  have E0 : ∀ i, i < 39 → gad Γ i = gad Γ i := fun _ _ => rfl
  replace hR : RXI Γ 39 2 105 (gad Γ) LK80 := hR
  replace hC : CX Γ cX8_init RX8 LK76 2 1 := hC
  show GX Γ LK76 _ _ [some (.ref (gad Γ 38))] [] μZ _
  refine GX_aload_n hC dX8_init_0 rfl ?_
  refine GX_oinit hC oiX8_3 (by decide) (Nat.le_of_ble_eq_true rfl) dX8_init_1 ?_
  refine GX_aload_n hC dX8_init_4 rfl ?_
  refine GX_iconst hC 0 dX8_init_5 rfl ?_
  refine GX_putI (a := 38) (L := LK76) (μ := μZ) (x := 0) hC fkX8_9 ftX8_0 (show LK76[38]? = some (.inl (8, [none, none, none, some none, some none])) by decide +kernel) rfl dX8_init_6 ?_
  rw [show ∀ z w : Nat, si μZ z w 0 = μZ from si_Z]
  refine GX_aload_n hC dX8_init_9 rfl ?_
  refine GX_iconst hC 0 dX8_init_10 rfl ?_
  refine GX_putI (a := 38) (L := LK76) (μ := μZ) (x := 0) hC fkX8_15 ftX8_1 (show LK76[38]? = some (.inl (8, [none, none, none, some none, some none])) by decide +kernel) rfl dX8_init_11 ?_
  rw [show ∀ z w : Nat, si μZ z w 0 = μZ from si_Z]
  refine GX_aload_n hC dX8_init_14 rfl ?_
  refine GX_iconst hC 0 dX8_init_15 rfl ?_
  refine GX_putI (a := 38) (L := LK76) (μ := μZ) (x := 0) hC fkX8_18 ftX8_2 (show LK76[38]? = some (.inl (8, [none, none, none, some none, some none])) by decide +kernel) rfl dX8_init_16 ?_
  rw [show ∀ z w : Nat, si μZ z w 0 = μZ from si_Z]
  refine GX_aload_n hC dX8_init_19 rfl ?_
  refine GX_newO (ci := 4) hC [none, none, none, none, none] hal clX8_21 inX4 iiX4 uwX4 tyX4_ok rfl ⟨rfl, by decide +kernel⟩ (by decide +kernel) (hkk _ _ (by decide) (by decide)) dX8_init_20 (fun ad => [some (.ref (ad 38))]) (fun ad => [.ref (ad 38)]) rfl rfl (fun a b h => ⟨by first | rfl | simp only [h 38 (by decide +kernel)], by first | rfl | simp only [h 38 (by decide +kernel)]⟩) (fun ad1 e1 hC => ?_)
  have E1 : ∀ i, i < 39 → ad1 i = gad Γ i := fun i hi => (e1 i (Nat.lt_of_lt_of_le hi (by decide +kernel))).trans (E0 i hi)
  replace hC : CX (nG Γ ad1) cX8_init RX8 LK77 2 1 := hC
  show GX (nG Γ ad1) LK77 _ _ [some (.ref (ad1 38))] [.ref (ad1 39), .ref (ad1 38)] μZ _
  refine GX_dup hC dX8_init_23 rfl ?_
  refine GX_callI (t := 39) hC K_Move_39 okiX4 ckX8_23 (alOK_nG hal) hao (by decide) (by decide) (kX_nG (hkk _ _ (by decide) (by decide))) (Nat.le_of_ble_eq_true rfl) dX8_init_24 (fun ad => [some (.ref (ad 38))]) (fun ad => [.ref (ad 39), .ref (ad 38)]) rfl rfl (fun a b h => ⟨by first | rfl | simp only [h 38 (by decide +kernel), h 39 (by decide +kernel)], by first | rfl | simp only [h 38 (by decide +kernel), h 39 (by decide +kernel)]⟩) (fun ad2 e2 hC => ?_)
  rw [nG_nG] at hC ⊢
  have E2 : ∀ i, i < 39 → ad2 i = gad Γ i := fun i hi => (e2 i (Nat.lt_of_lt_of_le hi (by decide +kernel))).trans (E1 i hi)
  replace hC : CX (nG Γ ad2) cX8_init RX8 LK77 2 1 := hC
  show GX (nG Γ ad2) LK77 _ _ [some (.ref (ad2 38))] [.ref (ad2 39), .ref (ad2 38)] μZ _
  refine GX_putR (a := 38) (b := 39) (L := LK77) hC fkX8_24 (inInit_nG hin) (show vwCl[8]? = some (RX8, TX8, 5) from rfl) rfl rfl (tyX8_ok 3 (by decide)) (fun _ => rfl) (fun _ => rfl) (show LK77[38]? = some (.inl (8, [none, none, none, some none, some none])) by decide +kernel) (by decide) dX8_init_27 (fun hC => ?_)
  replace hC : CX (nG Γ ad2) cX8_init RX8 LK78 2 1 := hC
  show GX (nG Γ ad2) LK78 _ _ [some (.ref (ad2 38))] [] μZ _
  refine GX_aload_n hC dX8_init_30 rfl ?_
  refine GX_bipush hC 100 dX8_init_31 rfl ?_
  refine GX_newI hC 100 (alOK_nG hal) ac_int (by decide) rfl (by decide) (by decide +kernel) (kX_nG (hkk _ _ (by decide) (by decide))) dX8_init_33 (fun ad => [some (.ref (ad 38))]) (fun ad => [.ref (ad 38)]) rfl rfl (fun a b h => ⟨by first | rfl | simp only [h 38 (by decide +kernel)], by first | rfl | simp only [h 38 (by decide +kernel)]⟩) (fun ad3 e3 hC => ?_)
  rw [nG_nG] at hC ⊢
  have E3 : ∀ i, i < 39 → ad3 i = gad Γ i := fun i hi => (e3 i (Nat.lt_of_lt_of_le hi (by decide +kernel))).trans (E2 i hi)
  replace hC : CX (nG Γ ad3) cX8_init RX8 LK79 2 1 := hC
  show GX (nG Γ ad3) LK79 _ _ [some (.ref (ad3 38))] [.ref (ad3 40), .ref (ad3 38)] μZ _
  refine GX_putR (a := 38) (b := 40) (L := LK79) hC fkX8_28 (inInit_nG hin) (show vwCl[8]? = some (RX8, TX8, 5) from rfl) rfl rfl (tyX8_ok 4 (by decide)) (fun _ => rfl) (fun _ => rfl) (show LK79[38]? = some (.inl (8, [none, none, none, some (some 39), some none])) by decide +kernel) (by decide) dX8_init_35 (fun hC => ?_)
  replace hC : CX (nG Γ ad3) cX8_init RX8 LK80 2 1 := hC
  show GX (nG Γ ad3) LK80 _ _ [some (.ref (ad3 38))] [] μZ _
  exact GX_vretI hC (RXI_nG hR) E3 dX8_init_38
set_option maxRecDepth 100000 in
set_option maxHeartbeats 4000000 in
theorem K_Move_42 {l : Launch} : CnI l yX4_init cX4_init 1 1 0 0 LK83 LK83 42 := by
  refine CnI.of (by decide +kernel) rfl (by decide) (fun Γ hl hC hR hkk hal hin hao => ?_)
  subst hl
  have E0 : ∀ i, i < 43 → gad Γ i = gad Γ i := fun _ _ => rfl
  replace hR : RXI Γ 43 0 0 (gad Γ) LK83 := hR
  replace hC : CX Γ cX4_init RX4 LK83 1 1 := hC
  show GX Γ LK83 _ _ [some (.ref (gad Γ 42))] [] μZ _
  refine GX_aload_n hC dX4_init_0 rfl ?_
  refine GX_oinit hC oiX4_3 (by decide) (Nat.le_of_ble_eq_true rfl) dX4_init_1 ?_
  refine GX_aload_n hC dX4_init_4 rfl ?_
  refine GX_iconst hC 0 dX4_init_5 rfl ?_
  refine GX_putI (a := 42) (L := LK83) (μ := μZ) (x := 0) hC fkX4_9 ftX4_0 (show LK83[42]? = some (.inl (4, [none, none, none, none, none])) by decide +kernel) rfl dX4_init_6 ?_
  rw [show ∀ z w : Nat, si μZ z w 0 = μZ from si_Z]
  refine GX_aload_n hC dX4_init_9 rfl ?_
  refine GX_iconst hC 0 dX4_init_10 rfl ?_
  refine GX_putI (a := 42) (L := LK83) (μ := μZ) (x := 0) hC fkX4_15 ftX4_1 (show LK83[42]? = some (.inl (4, [none, none, none, none, none])) by decide +kernel) rfl dX4_init_11 ?_
  rw [show ∀ z w : Nat, si μZ z w 0 = μZ from si_Z]
  refine GX_aload_n hC dX4_init_14 rfl ?_
  refine GX_iconst hC 0 dX4_init_15 rfl ?_
  refine GX_putI (a := 42) (L := LK83) (μ := μZ) (x := 0) hC fkX4_18 ftX4_2 (show LK83[42]? = some (.inl (4, [none, none, none, none, none])) by decide +kernel) rfl dX4_init_16 ?_
  rw [show ∀ z w : Nat, si μZ z w 0 = μZ from si_Z]
  refine GX_aload_n hC dX4_init_19 rfl ?_
  refine GX_iconst hC 0 dX4_init_20 rfl ?_
  refine GX_putI (a := 42) (L := LK83) (μ := μZ) (x := 0) hC fkX4_21 ftX4_3 (show LK83[42]? = some (.inl (4, [none, none, none, none, none])) by decide +kernel) rfl dX4_init_21 ?_
  rw [show ∀ z w : Nat, si μZ z w 0 = μZ from si_Z]
  refine GX_aload_n hC dX4_init_24 rfl ?_
  refine GX_iconst hC 0 dX4_init_25 rfl ?_
  refine GX_putI (a := 42) (L := LK83) (μ := μZ) (x := 0) hC fkX4_24 ftX4_4 (show LK83[42]? = some (.inl (4, [none, none, none, none, none])) by decide +kernel) rfl dX4_init_26 ?_
  rw [show ∀ z w : Nat, si μZ z w 0 = μZ from si_Z]
  exact GX_vretI hC hR E0 dX4_init_29
set_option maxRecDepth 100000 in
set_option maxHeartbeats 4000000 in
theorem K_Shelf_41 {l : Launch} : CnI l yX8_init cX8_init 1 2 2 105 LK82 LK86 41 := by
  refine CnI.of (by decide +kernel) rfl (by decide) (fun Γ hl hC hR hkk hal hin hao => ?_)
  subst hl
  have E0 : ∀ i, i < 42 → gad Γ i = gad Γ i := fun _ _ => rfl
  replace hR : RXI Γ 42 2 105 (gad Γ) LK86 := hR
  replace hC : CX Γ cX8_init RX8 LK82 2 1 := hC
  show GX Γ LK82 _ _ [some (.ref (gad Γ 41))] [] μZ _
  refine GX_aload_n hC dX8_init_0 rfl ?_
  refine GX_oinit hC oiX8_3 (by decide) (Nat.le_of_ble_eq_true rfl) dX8_init_1 ?_
  refine GX_aload_n hC dX8_init_4 rfl ?_
  refine GX_iconst hC 0 dX8_init_5 rfl ?_
  refine GX_putI (a := 41) (L := LK82) (μ := μZ) (x := 0) hC fkX8_9 ftX8_0 (show LK82[41]? = some (.inl (8, [none, none, none, some none, some none])) by decide +kernel) rfl dX8_init_6 ?_
  rw [show ∀ z w : Nat, si μZ z w 0 = μZ from si_Z]
  refine GX_aload_n hC dX8_init_9 rfl ?_
  refine GX_iconst hC 0 dX8_init_10 rfl ?_
  refine GX_putI (a := 41) (L := LK82) (μ := μZ) (x := 0) hC fkX8_15 ftX8_1 (show LK82[41]? = some (.inl (8, [none, none, none, some none, some none])) by decide +kernel) rfl dX8_init_11 ?_
  rw [show ∀ z w : Nat, si μZ z w 0 = μZ from si_Z]
  refine GX_aload_n hC dX8_init_14 rfl ?_
  refine GX_iconst hC 0 dX8_init_15 rfl ?_
  refine GX_putI (a := 41) (L := LK82) (μ := μZ) (x := 0) hC fkX8_18 ftX8_2 (show LK82[41]? = some (.inl (8, [none, none, none, some none, some none])) by decide +kernel) rfl dX8_init_16 ?_
  rw [show ∀ z w : Nat, si μZ z w 0 = μZ from si_Z]
  refine GX_aload_n hC dX8_init_19 rfl ?_
  refine GX_newO (ci := 4) hC [none, none, none, none, none] hal clX8_21 inX4 iiX4 uwX4 tyX4_ok rfl ⟨rfl, by decide +kernel⟩ (by decide +kernel) (hkk _ _ (by decide) (by decide)) dX8_init_20 (fun ad => [some (.ref (ad 41))]) (fun ad => [.ref (ad 41)]) rfl rfl (fun a b h => ⟨by first | rfl | simp only [h 41 (by decide +kernel)], by first | rfl | simp only [h 41 (by decide +kernel)]⟩) (fun ad1 e1 hC => ?_)
  have E1 : ∀ i, i < 42 → ad1 i = gad Γ i := fun i hi => (e1 i (Nat.lt_of_lt_of_le hi (by decide +kernel))).trans (E0 i hi)
  replace hC : CX (nG Γ ad1) cX8_init RX8 LK83 2 1 := hC
  show GX (nG Γ ad1) LK83 _ _ [some (.ref (ad1 41))] [.ref (ad1 42), .ref (ad1 41)] μZ _
  refine GX_dup hC dX8_init_23 rfl ?_
  refine GX_callI (t := 42) hC K_Move_42 okiX4 ckX8_23 (alOK_nG hal) hao (by decide) (by decide) (kX_nG (hkk _ _ (by decide) (by decide))) (Nat.le_of_ble_eq_true rfl) dX8_init_24 (fun ad => [some (.ref (ad 41))]) (fun ad => [.ref (ad 42), .ref (ad 41)]) rfl rfl (fun a b h => ⟨by first | rfl | simp only [h 41 (by decide +kernel), h 42 (by decide +kernel)], by first | rfl | simp only [h 41 (by decide +kernel), h 42 (by decide +kernel)]⟩) (fun ad2 e2 hC => ?_)
  rw [nG_nG] at hC ⊢
  have E2 : ∀ i, i < 42 → ad2 i = gad Γ i := fun i hi => (e2 i (Nat.lt_of_lt_of_le hi (by decide +kernel))).trans (E1 i hi)
  replace hC : CX (nG Γ ad2) cX8_init RX8 LK83 2 1 := hC
  show GX (nG Γ ad2) LK83 _ _ [some (.ref (ad2 41))] [.ref (ad2 42), .ref (ad2 41)] μZ _
  refine GX_putR (a := 41) (b := 42) (L := LK83) hC fkX8_24 (inInit_nG hin) (show vwCl[8]? = some (RX8, TX8, 5) from rfl) rfl rfl (tyX8_ok 3 (by decide)) (fun _ => rfl) (fun _ => rfl) (show LK83[41]? = some (.inl (8, [none, none, none, some none, some none])) by decide +kernel) (by decide) dX8_init_27 (fun hC => ?_)
  replace hC : CX (nG Γ ad2) cX8_init RX8 LK84 2 1 := hC
  show GX (nG Γ ad2) LK84 _ _ [some (.ref (ad2 41))] [] μZ _
  refine GX_aload_n hC dX8_init_30 rfl ?_
  refine GX_bipush hC 100 dX8_init_31 rfl ?_
  refine GX_newI hC 100 (alOK_nG hal) ac_int (by decide) rfl (by decide) (by decide +kernel) (kX_nG (hkk _ _ (by decide) (by decide))) dX8_init_33 (fun ad => [some (.ref (ad 41))]) (fun ad => [.ref (ad 41)]) rfl rfl (fun a b h => ⟨by first | rfl | simp only [h 41 (by decide +kernel)], by first | rfl | simp only [h 41 (by decide +kernel)]⟩) (fun ad3 e3 hC => ?_)
  rw [nG_nG] at hC ⊢
  have E3 : ∀ i, i < 42 → ad3 i = gad Γ i := fun i hi => (e3 i (Nat.lt_of_lt_of_le hi (by decide +kernel))).trans (E2 i hi)
  replace hC : CX (nG Γ ad3) cX8_init RX8 LK85 2 1 := hC
  show GX (nG Γ ad3) LK85 _ _ [some (.ref (ad3 41))] [.ref (ad3 43), .ref (ad3 41)] μZ _
  refine GX_putR (a := 41) (b := 43) (L := LK85) hC fkX8_28 (inInit_nG hin) (show vwCl[8]? = some (RX8, TX8, 5) from rfl) rfl rfl (tyX8_ok 4 (by decide)) (fun _ => rfl) (fun _ => rfl) (show LK85[41]? = some (.inl (8, [none, none, none, some (some 42), some none])) by decide +kernel) (by decide) dX8_init_35 (fun hC => ?_)
  replace hC : CX (nG Γ ad3) cX8_init RX8 LK86 2 1 := hC
  show GX (nG Γ ad3) LK86 _ _ [some (.ref (ad3 41))] [] μZ _
  exact GX_vretI hC (RXI_nG hR) E3 dX8_init_38
set_option maxRecDepth 100000 in
set_option maxHeartbeats 4000000 in
theorem K_Move_45 {l : Launch} : CnI l yX4_init cX4_init 1 1 0 0 LK89 LK89 45 := by
  refine CnI.of (by decide +kernel) rfl (by decide) (fun Γ hl hC hR hkk hal hin hao => ?_)
  subst hl
  have E0 : ∀ i, i < 46 → gad Γ i = gad Γ i := fun _ _ => rfl
  replace hR : RXI Γ 46 0 0 (gad Γ) LK89 := hR
  replace hC : CX Γ cX4_init RX4 LK89 1 1 := hC
  show GX Γ LK89 _ _ [some (.ref (gad Γ 45))] [] μZ _
  refine GX_aload_n hC dX4_init_0 rfl ?_
  refine GX_oinit hC oiX4_3 (by decide) (Nat.le_of_ble_eq_true rfl) dX4_init_1 ?_
  refine GX_aload_n hC dX4_init_4 rfl ?_
  refine GX_iconst hC 0 dX4_init_5 rfl ?_
  refine GX_putI (a := 45) (L := LK89) (μ := μZ) (x := 0) hC fkX4_9 ftX4_0 (show LK89[45]? = some (.inl (4, [none, none, none, none, none])) by decide +kernel) rfl dX4_init_6 ?_
  rw [show ∀ z w : Nat, si μZ z w 0 = μZ from si_Z]
  refine GX_aload_n hC dX4_init_9 rfl ?_
  refine GX_iconst hC 0 dX4_init_10 rfl ?_
  refine GX_putI (a := 45) (L := LK89) (μ := μZ) (x := 0) hC fkX4_15 ftX4_1 (show LK89[45]? = some (.inl (4, [none, none, none, none, none])) by decide +kernel) rfl dX4_init_11 ?_
  rw [show ∀ z w : Nat, si μZ z w 0 = μZ from si_Z]
  refine GX_aload_n hC dX4_init_14 rfl ?_
  refine GX_iconst hC 0 dX4_init_15 rfl ?_
  refine GX_putI (a := 45) (L := LK89) (μ := μZ) (x := 0) hC fkX4_18 ftX4_2 (show LK89[45]? = some (.inl (4, [none, none, none, none, none])) by decide +kernel) rfl dX4_init_16 ?_
  rw [show ∀ z w : Nat, si μZ z w 0 = μZ from si_Z]
  refine GX_aload_n hC dX4_init_19 rfl ?_
  refine GX_iconst hC 0 dX4_init_20 rfl ?_
  refine GX_putI (a := 45) (L := LK89) (μ := μZ) (x := 0) hC fkX4_21 ftX4_3 (show LK89[45]? = some (.inl (4, [none, none, none, none, none])) by decide +kernel) rfl dX4_init_21 ?_
  rw [show ∀ z w : Nat, si μZ z w 0 = μZ from si_Z]
  refine GX_aload_n hC dX4_init_24 rfl ?_
  refine GX_iconst hC 0 dX4_init_25 rfl ?_
  refine GX_putI (a := 45) (L := LK89) (μ := μZ) (x := 0) hC fkX4_24 ftX4_4 (show LK89[45]? = some (.inl (4, [none, none, none, none, none])) by decide +kernel) rfl dX4_init_26 ?_
  rw [show ∀ z w : Nat, si μZ z w 0 = μZ from si_Z]
  exact GX_vretI hC hR E0 dX4_init_29
set_option maxRecDepth 100000 in
set_option maxHeartbeats 4000000 in
theorem K_Shelf_44 {l : Launch} : CnI l yX8_init cX8_init 1 2 2 105 LK88 LK92 44 := by
  refine CnI.of (by decide +kernel) rfl (by decide) (fun Γ hl hC hR hkk hal hin hao => ?_)
  subst hl
  have E0 : ∀ i, i < 45 → gad Γ i = gad Γ i := fun _ _ => rfl
  replace hR : RXI Γ 45 2 105 (gad Γ) LK92 := hR
  replace hC : CX Γ cX8_init RX8 LK88 2 1 := hC
  show GX Γ LK88 _ _ [some (.ref (gad Γ 44))] [] μZ _
  refine GX_aload_n hC dX8_init_0 rfl ?_
  refine GX_oinit hC oiX8_3 (by decide) (Nat.le_of_ble_eq_true rfl) dX8_init_1 ?_
  refine GX_aload_n hC dX8_init_4 rfl ?_
  refine GX_iconst hC 0 dX8_init_5 rfl ?_
  refine GX_putI (a := 44) (L := LK88) (μ := μZ) (x := 0) hC fkX8_9 ftX8_0 (show LK88[44]? = some (.inl (8, [none, none, none, some none, some none])) by decide +kernel) rfl dX8_init_6 ?_
  rw [show ∀ z w : Nat, si μZ z w 0 = μZ from si_Z]
  refine GX_aload_n hC dX8_init_9 rfl ?_
  refine GX_iconst hC 0 dX8_init_10 rfl ?_
  refine GX_putI (a := 44) (L := LK88) (μ := μZ) (x := 0) hC fkX8_15 ftX8_1 (show LK88[44]? = some (.inl (8, [none, none, none, some none, some none])) by decide +kernel) rfl dX8_init_11 ?_
  rw [show ∀ z w : Nat, si μZ z w 0 = μZ from si_Z]
  refine GX_aload_n hC dX8_init_14 rfl ?_
  refine GX_iconst hC 0 dX8_init_15 rfl ?_
  refine GX_putI (a := 44) (L := LK88) (μ := μZ) (x := 0) hC fkX8_18 ftX8_2 (show LK88[44]? = some (.inl (8, [none, none, none, some none, some none])) by decide +kernel) rfl dX8_init_16 ?_
  rw [show ∀ z w : Nat, si μZ z w 0 = μZ from si_Z]
  refine GX_aload_n hC dX8_init_19 rfl ?_
  refine GX_newO (ci := 4) hC [none, none, none, none, none] hal clX8_21 inX4 iiX4 uwX4 tyX4_ok rfl ⟨rfl, by decide +kernel⟩ (by decide +kernel) (hkk _ _ (by decide) (by decide)) dX8_init_20 (fun ad => [some (.ref (ad 44))]) (fun ad => [.ref (ad 44)]) rfl rfl (fun a b h => ⟨by first | rfl | simp only [h 44 (by decide +kernel)], by first | rfl | simp only [h 44 (by decide +kernel)]⟩) (fun ad1 e1 hC => ?_)
  have E1 : ∀ i, i < 45 → ad1 i = gad Γ i := fun i hi => (e1 i (Nat.lt_of_lt_of_le hi (by decide +kernel))).trans (E0 i hi)
  replace hC : CX (nG Γ ad1) cX8_init RX8 LK89 2 1 := hC
  show GX (nG Γ ad1) LK89 _ _ [some (.ref (ad1 44))] [.ref (ad1 45), .ref (ad1 44)] μZ _
  refine GX_dup hC dX8_init_23 rfl ?_
  refine GX_callI (t := 45) hC K_Move_45 okiX4 ckX8_23 (alOK_nG hal) hao (by decide) (by decide) (kX_nG (hkk _ _ (by decide) (by decide))) (Nat.le_of_ble_eq_true rfl) dX8_init_24 (fun ad => [some (.ref (ad 44))]) (fun ad => [.ref (ad 45), .ref (ad 44)]) rfl rfl (fun a b h => ⟨by first | rfl | simp only [h 44 (by decide +kernel), h 45 (by decide +kernel)], by first | rfl | simp only [h 44 (by decide +kernel), h 45 (by decide +kernel)]⟩) (fun ad2 e2 hC => ?_)
  rw [nG_nG] at hC ⊢
  have E2 : ∀ i, i < 45 → ad2 i = gad Γ i := fun i hi => (e2 i (Nat.lt_of_lt_of_le hi (by decide +kernel))).trans (E1 i hi)
  replace hC : CX (nG Γ ad2) cX8_init RX8 LK89 2 1 := hC
  show GX (nG Γ ad2) LK89 _ _ [some (.ref (ad2 44))] [.ref (ad2 45), .ref (ad2 44)] μZ _
  refine GX_putR (a := 44) (b := 45) (L := LK89) hC fkX8_24 (inInit_nG hin) (show vwCl[8]? = some (RX8, TX8, 5) from rfl) rfl rfl (tyX8_ok 3 (by decide)) (fun _ => rfl) (fun _ => rfl) (show LK89[44]? = some (.inl (8, [none, none, none, some none, some none])) by decide +kernel) (by decide) dX8_init_27 (fun hC => ?_)
  replace hC : CX (nG Γ ad2) cX8_init RX8 LK90 2 1 := hC
  show GX (nG Γ ad2) LK90 _ _ [some (.ref (ad2 44))] [] μZ _
  refine GX_aload_n hC dX8_init_30 rfl ?_
  refine GX_bipush hC 100 dX8_init_31 rfl ?_
  refine GX_newI hC 100 (alOK_nG hal) ac_int (by decide) rfl (by decide) (by decide +kernel) (kX_nG (hkk _ _ (by decide) (by decide))) dX8_init_33 (fun ad => [some (.ref (ad 44))]) (fun ad => [.ref (ad 44)]) rfl rfl (fun a b h => ⟨by first | rfl | simp only [h 44 (by decide +kernel)], by first | rfl | simp only [h 44 (by decide +kernel)]⟩) (fun ad3 e3 hC => ?_)
  rw [nG_nG] at hC ⊢
  have E3 : ∀ i, i < 45 → ad3 i = gad Γ i := fun i hi => (e3 i (Nat.lt_of_lt_of_le hi (by decide +kernel))).trans (E2 i hi)
  replace hC : CX (nG Γ ad3) cX8_init RX8 LK91 2 1 := hC
  show GX (nG Γ ad3) LK91 _ _ [some (.ref (ad3 44))] [.ref (ad3 46), .ref (ad3 44)] μZ _
  refine GX_putR (a := 44) (b := 46) (L := LK91) hC fkX8_28 (inInit_nG hin) (show vwCl[8]? = some (RX8, TX8, 5) from rfl) rfl rfl (tyX8_ok 4 (by decide)) (fun _ => rfl) (fun _ => rfl) (show LK91[44]? = some (.inl (8, [none, none, none, some (some 45), some none])) by decide +kernel) (by decide) dX8_init_35 (fun hC => ?_)
  replace hC : CX (nG Γ ad3) cX8_init RX8 LK92 2 1 := hC
  show GX (nG Γ ad3) LK92 _ _ [some (.ref (ad3 44))] [] μZ _
  exact GX_vretI hC (RXI_nG hR) E3 dX8_init_38
set_option maxRecDepth 100000 in
set_option maxHeartbeats 4000000 in
theorem K_Move_48 {l : Launch} : CnI l yX4_init cX4_init 1 1 0 0 LK95 LK95 48 := by
  refine CnI.of (by decide +kernel) rfl (by decide) (fun Γ hl hC hR hkk hal hin hao => ?_)
  subst hl
  have E0 : ∀ i, i < 49 → gad Γ i = gad Γ i := fun _ _ => rfl
  replace hR : RXI Γ 49 0 0 (gad Γ) LK95 := hR
  replace hC : CX Γ cX4_init RX4 LK95 1 1 := hC
  show GX Γ LK95 _ _ [some (.ref (gad Γ 48))] [] μZ _
  refine GX_aload_n hC dX4_init_0 rfl ?_
  refine GX_oinit hC oiX4_3 (by decide) (Nat.le_of_ble_eq_true rfl) dX4_init_1 ?_
  refine GX_aload_n hC dX4_init_4 rfl ?_
  refine GX_iconst hC 0 dX4_init_5 rfl ?_
  refine GX_putI (a := 48) (L := LK95) (μ := μZ) (x := 0) hC fkX4_9 ftX4_0 (show LK95[48]? = some (.inl (4, [none, none, none, none, none])) by decide +kernel) rfl dX4_init_6 ?_
  rw [show ∀ z w : Nat, si μZ z w 0 = μZ from si_Z]
  refine GX_aload_n hC dX4_init_9 rfl ?_
  refine GX_iconst hC 0 dX4_init_10 rfl ?_
  refine GX_putI (a := 48) (L := LK95) (μ := μZ) (x := 0) hC fkX4_15 ftX4_1 (show LK95[48]? = some (.inl (4, [none, none, none, none, none])) by decide +kernel) rfl dX4_init_11 ?_
  rw [show ∀ z w : Nat, si μZ z w 0 = μZ from si_Z]
  refine GX_aload_n hC dX4_init_14 rfl ?_
  refine GX_iconst hC 0 dX4_init_15 rfl ?_
  refine GX_putI (a := 48) (L := LK95) (μ := μZ) (x := 0) hC fkX4_18 ftX4_2 (show LK95[48]? = some (.inl (4, [none, none, none, none, none])) by decide +kernel) rfl dX4_init_16 ?_
  rw [show ∀ z w : Nat, si μZ z w 0 = μZ from si_Z]
  refine GX_aload_n hC dX4_init_19 rfl ?_
  refine GX_iconst hC 0 dX4_init_20 rfl ?_
  refine GX_putI (a := 48) (L := LK95) (μ := μZ) (x := 0) hC fkX4_21 ftX4_3 (show LK95[48]? = some (.inl (4, [none, none, none, none, none])) by decide +kernel) rfl dX4_init_21 ?_
  rw [show ∀ z w : Nat, si μZ z w 0 = μZ from si_Z]
  refine GX_aload_n hC dX4_init_24 rfl ?_
  refine GX_iconst hC 0 dX4_init_25 rfl ?_
  refine GX_putI (a := 48) (L := LK95) (μ := μZ) (x := 0) hC fkX4_24 ftX4_4 (show LK95[48]? = some (.inl (4, [none, none, none, none, none])) by decide +kernel) rfl dX4_init_26 ?_
  rw [show ∀ z w : Nat, si μZ z w 0 = μZ from si_Z]
  exact GX_vretI hC hR E0 dX4_init_29
