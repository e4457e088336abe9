set_option maxRecDepth 100000 in
set_option maxHeartbeats 4000000 in
theorem K_Shelf_47 {l : Launch} : CnI l yX8_init cX8_init 1 2 2 105 LK94 LK98 47 := by
  refine CnI.of (by decide +kernel) rfl (by decide) (fun Γ hl hC hR hkk hal hin hao => ?_)
  subst hl
  have E0 : ∀ i, i < 48 → gad Γ i = gad Γ i := fun _ _ => rfl
  replace hR : RXI Γ 48 2 105 (gad Γ) LK98 := hR
  replace hC : CX Γ cX8_init RX8 LK94 2 1 := hC
  show GX Γ LK94 _ _ [some (.ref (gad Γ 47))] [] μZ _
  refine GX_aload_n hC dX8_init_0 rfl ?_
  refine GX_oinit hC oiX8_3 (by decide) (Nat.le_of_ble_eq_true rfl) dX8_init_1 ?_
  refine GX_aload_n hC dX8_init_4 rfl ?_
  refine GX_iconst hC 0 dX8_init_5 rfl ?_
  refine GX_putI (a := 47) (L := LK94) (μ := μZ) (x := 0) hC fkX8_9 ftX8_0 (show LK94[47]? = some (.inl (8, [none, none, none, some none, some none])) by decide +kernel) rfl dX8_init_6 ?_
  rw [show ∀ z w : Nat, si μZ z w 0 = μZ from si_Z]
  refine GX_aload_n hC dX8_init_9 rfl ?_
  refine GX_iconst hC 0 dX8_init_10 rfl ?_
  refine GX_putI (a := 47) (L := LK94) (μ := μZ) (x := 0) hC fkX8_15 ftX8_1 (show LK94[47]? = some (.inl (8, [none, none, none, some none, some none])) by decide +kernel) rfl dX8_init_11 ?_
  rw [show ∀ z w : Nat, si μZ z w 0 = μZ from si_Z]
  refine GX_aload_n hC dX8_init_14 rfl ?_
  refine GX_iconst hC 0 dX8_init_15 rfl ?_
  refine GX_putI (a := 47) (L := LK94) (μ := μZ) (x := 0) hC fkX8_18 ftX8_2 (show LK94[47]? = some (.inl (8, [none, none, none, some none, some none])) by decide +kernel) rfl dX8_init_16 ?_
  rw [show ∀ z w : Nat, si μZ z w 0 = μZ from si_Z]
  refine GX_aload_n hC dX8_init_19 rfl ?_
  refine GX_newO (ci := 4) hC [none, none, none, none, none] hal clX8_21 inX4 iiX4 uwX4 tyX4_ok rfl ⟨rfl, by decide +kernel⟩ (by decide +kernel) (hkk _ _ (by decide) (by decide)) dX8_init_20 (fun ad => [some (.ref (ad 47))]) (fun ad => [.ref (ad 47)]) rfl rfl (fun a b h => ⟨by first | rfl | simp only [h 47 (by decide +kernel)], by first | rfl | simp only [h 47 (by decide +kernel)]⟩) (fun ad1 e1 hC => ?_)
  have E1 : ∀ i, i < 48 → ad1 i = gad Γ i := fun i hi => (e1 i (Nat.lt_of_lt_of_le hi (by decide +kernel))).trans (E0 i hi)
  replace hC : CX (nG Γ ad1) cX8_init RX8 LK95 2 1 := hC
  show GX (nG Γ ad1) LK95 _ _ [some (.ref (ad1 47))] [.ref (ad1 48), .ref (ad1 47)] μZ _
  refine GX_dup hC dX8_init_23 rfl ?_
  refine GX_callI (t := 48) hC K_Move_48 okiX4 ckX8_23 (alOK_nG hal) hao (by decide) (by decide) (kX_nG (hkk _ _ (by decide) (by decide))) (Nat.le_of_ble_eq_true rfl) dX8_init_24 (fun ad => [some (.ref (ad 47))]) (fun ad => [.ref (ad 48), .ref (ad 47)]) rfl rfl (fun a b h => ⟨by first | rfl | simp only [h 47 (by decide +kernel), h 48 (by decide +kernel)], by first | rfl | simp only [h 47 (by decide +kernel), h 48 (by decide +kernel)]⟩) (fun ad2 e2 hC => ?_)
  rw [nG_nG] at hC ⊢
  have E2 : ∀ i, i < 48 → ad2 i = gad Γ i := fun i hi => (e2 i (Nat.lt_of_lt_of_le hi (by decide +kernel))).trans (E1 i hi)
  replace hC : CX (nG Γ ad2) cX8_init RX8 LK95 2 1 := hC
  show GX (nG Γ ad2) LK95 _ _ [some (.ref (ad2 47))] [.ref (ad2 48), .ref (ad2 47)] μZ _
  refine GX_putR (a := 47) (b := 48) (L := LK95) hC fkX8_24 (inInit_nG hin) (show vwCl[8]? = some (RX8, TX8, 5) from rfl) rfl rfl (tyX8_ok 3 (by decide)) (fun _ => rfl) (fun _ => rfl) (show LK95[47]? = some (.inl (8, [none, none, none, some none, some none])) by decide +kernel) (by decide) dX8_init_27 (fun hC => ?_)
  replace hC : CX (nG Γ ad2) cX8_init RX8 LK96 2 1 := hC
  show GX (nG Γ ad2) LK96 _ _ [some (.ref (ad2 47))] [] μZ _
  refine GX_aload_n hC dX8_init_30 rfl ?_
  refine GX_bipush hC 100 dX8_init_31 rfl ?_
  refine GX_newI hC 100 (alOK_nG hal) ac_int (by decide) rfl (by decide) (by decide +kernel) (kX_nG (hkk _ _ (by decide) (by decide))) dX8_init_33 (fun ad => [some (.ref (ad 47))]) (fun ad => [.ref (ad 47)]) rfl rfl (fun a b h => ⟨by first | rfl | simp only [h 47 (by decide +kernel)], by first | rfl | simp only [h 47 (by decide +kernel)]⟩) (fun ad3 e3 hC => ?_)
  rw [nG_nG] at hC ⊢
  have E3 : ∀ i, i < 48 → ad3 i = gad Γ i := fun i hi => (e3 i (Nat.lt_of_lt_of_le hi (by decide +kernel))).trans (E2 i hi)
  replace hC : CX (nG Γ ad3) cX8_init RX8 LK97 2 1 := hC
  show GX (nG Γ ad3) LK97 _ _ [some (.ref (ad3 47))] [.ref (ad3 49), .ref (ad3 47)] μZ _
  refine GX_putR (a := 47) (b := 49) (L := LK97) hC fkX8_28 (inInit_nG hin) (show vwCl[8]? = some (RX8, TX8, 5) from rfl) rfl rfl (tyX8_ok 4 (by decide)) (fun _ => rfl) (fun _ => rfl) (show LK97[47]? = some (.inl (8, [none, none, none, some (some 48), some none])) by decide +kernel) (by decide) dX8_init_35 (fun hC => ?_)
  replace hC : CX (nG Γ ad3) cX8_init RX8 LK98 2 1 := hC
  show GX (nG Γ ad3) LK98 _ _ [some (.ref (ad3 47))] [] μZ _
  exact GX_vretI hC (RXI_nG hR) E3 dX8_init_38
set_option maxRecDepth 100000 in
set_option maxHeartbeats 4000000 in
theorem K_Move_51 {l : Launch} : CnI l yX4_init cX4_init 1 1 0 0 LK101 LK101 51 := by
  refine CnI.of (by decide +kernel) rfl (by decide) (fun Γ hl hC hR hkk hal hin hao => ?_)
  subst hl
  have E0 : ∀ i, i < 52 → gad Γ i = gad Γ i := fun _ _ => rfl
  replace hR : RXI Γ 52 0 0 (gad Γ) LK101 := hR
  replace hC : CX Γ cX4_init RX4 LK101 1 1 := hC
  show GX Γ LK101 _ _ [some (.ref (gad Γ 51))] [] μZ _
  refine GX_aload_n hC dX4_init_0 rfl ?_
  refine GX_oinit hC oiX4_3 (by decide) (Nat.le_of_ble_eq_true rfl) dX4_init_1 ?_
  refine GX_aload_n hC dX4_init_4 rfl ?_
  refine GX_iconst hC 0 dX4_init_5 rfl ?_
  refine GX_putI (a := 51) (L := LK101) (μ := μZ) (x := 0) hC fkX4_9 ftX4_0 (show LK101[51]? = some (.inl (4, [none, none, none, none, none])) by decide +kernel) rfl dX4_init_6 ?_
  rw [show ∀ z w : Nat, si μZ z w 0 = μZ from si_Z]
  refine GX_aload_n hC dX4_init_9 rfl ?_
  refine GX_iconst hC 0 dX4_init_10 rfl ?_
  refine GX_putI (a := 51) (L := LK101) (μ := μZ) (x := 0) hC fkX4_15 ftX4_1 (show LK101[51]? = some (.inl (4, [none, none, none, none, none])) by decide +kernel) rfl dX4_init_11 ?_
  rw [show ∀ z w : Nat, si μZ z w 0 = μZ from si_Z]
  refine GX_aload_n hC dX4_init_14 rfl ?_
  refine GX_iconst hC 0 dX4_init_15 rfl ?_
  refine GX_putI (a := 51) (L := LK101) (μ := μZ) (x := 0) hC fkX4_18 ftX4_2 (show LK101[51]? = some (.inl (4, [none, none, none, none, none])) by decide +kernel) rfl dX4_init_16 ?_
  rw [show ∀ z w : Nat, si μZ z w 0 = μZ from si_Z]
  refine GX_aload_n hC dX4_init_19 rfl ?_
  refine GX_iconst hC 0 dX4_init_20 rfl ?_
  refine GX_putI (a := 51) (L := LK101) (μ := μZ) (x := 0) hC fkX4_21 ftX4_3 (show LK101[51]? = some (.inl (4, [none, none, none, none, none])) by decide +kernel) rfl dX4_init_21 ?_
  rw [show ∀ z w : Nat, si μZ z w 0 = μZ from si_Z]
  refine GX_aload_n hC dX4_init_24 rfl ?_
  refine GX_iconst hC 0 dX4_init_25 rfl ?_
  refine GX_putI (a := 51) (L := LK101) (μ := μZ) (x := 0) hC fkX4_24 ftX4_4 (show LK101[51]? = some (.inl (4, [none, none, none, none, none])) by decide +kernel) rfl dX4_init_26 ?_
  rw [show ∀ z w : Nat, si μZ z w 0 = μZ from si_Z]
  exact GX_vretI hC hR E0 dX4_init_29
set_option maxRecDepth 100000 in
set_option maxHeartbeats 4000000 in
theorem K_Shelf_50 {l : Launch} : CnI l yX8_init cX8_init 1 2 2 105 LK100 LK104 50 := by
  refine CnI.of (by decide +kernel) rfl (by decide) (fun Γ hl hC hR hkk hal hin hao => ?_)
  subst hl
  have E0 : ∀ i, i < 51 → gad Γ i = gad Γ i := fun _ _ => rfl
  replace hR : RXI Γ 51 2 105 (gad Γ) LK104 := hR
  replace hC : CX Γ cX8_init RX8 LK100 2 1 := hC
  show GX Γ LK100 _ _ [some (.ref (gad Γ 50))] [] μZ _
  refine GX_aload_n hC dX8_init_0 rfl ?_
  refine GX_oinit hC oiX8_3 (by decide) (Nat.le_of_ble_eq_true rfl) dX8_init_1 ?_
  refine GX_aload_n hC dX8_init_4 rfl ?_
  refine GX_iconst hC 0 dX8_init_5 rfl ?_
  refine GX_putI (a := 50) (L := LK100) (μ := μZ) (x := 0) hC fkX8_9 ftX8_0 (show LK100[50]? = some (.inl (8, [none, none, none, some none, some none])) by decide +kernel) rfl dX8_init_6 ?_
  rw [show ∀ z w : Nat, si μZ z w 0 = μZ from si_Z]
  refine GX_aload_n hC dX8_init_9 rfl ?_
  refine GX_iconst hC 0 dX8_init_10 rfl ?_
  refine GX_putI (a := 50) (L := LK100) (μ := μZ) (x := 0) hC fkX8_15 ftX8_1 (show LK100[50]? = some (.inl (8, [none, none, none, some none, some none])) by decide +kernel) rfl dX8_init_11 ?_
  rw [show ∀ z w : Nat, si μZ z w 0 = μZ from si_Z]
  refine GX_aload_n hC dX8_init_14 rfl ?_
  refine GX_iconst hC 0 dX8_init_15 rfl ?_
  refine GX_putI (a := 50) (L := LK100) (μ := μZ) (x := 0) hC fkX8_18 ftX8_2 (show LK100[50]? = some (.inl (8, [none, none, none, some none, some none])) by decide +kernel) rfl dX8_init_16 ?_
  rw [show ∀ z w : Nat, si μZ z w 0 = μZ from si_Z]
  refine GX_aload_n hC dX8_init_19 rfl ?_
  refine GX_newO (ci := 4) hC [none, none, none, none, none] hal clX8_21 inX4 iiX4 uwX4 tyX4_ok rfl ⟨rfl, by decide +kernel⟩ (by decide +kernel) (hkk _ _ (by decide) (by decide)) dX8_init_20 (fun ad => [some (.ref (ad 50))]) (fun ad => [.ref (ad 50)]) rfl rfl (fun a b h => ⟨by first | rfl | simp only [h 50 (by decide +kernel)], by first | rfl | simp only [h 50 (by decide +kernel)]⟩) (fun ad1 e1 hC => ?_)
  have E1 : ∀ i, i < 51 → ad1 i = gad Γ i := fun i hi => (e1 i (Nat.lt_of_lt_of_le hi (by decide +kernel))).trans (E0 i hi)
  replace hC : CX (nG Γ ad1) cX8_init RX8 LK101 2 1 := hC
  show GX (nG Γ ad1) LK101 _ _ [some (.ref (ad1 50))] [.ref (ad1 51), .ref (ad1 50)] μZ _
  refine GX_dup hC dX8_init_23 rfl ?_
  refine GX_callI (t := 51) hC K_Move_51 okiX4 ckX8_23 (alOK_nG hal) hao (by decide) (by decide) (kX_nG (hkk _ _ (by decide) (by decide))) (Nat.le_of_ble_eq_true rfl) dX8_init_24 (fun ad => [some (.ref (ad 50))]) (fun ad => [.ref (ad 51), .ref (ad 50)]) rfl rfl (fun a b h => ⟨by first | rfl | simp only [h 50 (by decide +kernel), h 51 (by decide +kernel)], by first | rfl | simp only [h 50 (by decide +kernel), h 51 (by decide +kernel)]⟩) (fun ad2 e2 hC => ?_)
  rw [nG_nG] at hC ⊢
  have E2 : ∀ i, i < 51 → ad2 i = gad Γ i := fun i hi => (e2 i (Nat.lt_of_lt_of_le hi (by decide +kernel))).trans (E1 i hi)
  replace hC : CX (nG Γ ad2) cX8_init RX8 LK101 2 1 := hC
  show GX (nG Γ ad2) LK101 _ _ [some (.ref (ad2 50))] [.ref (ad2 51), .ref (ad2 50)] μZ _
  refine GX_putR (a := 50) (b := 51) (L := LK101) hC fkX8_24 (inInit_nG hin) (show vwCl[8]? = some (RX8, TX8, 5) from rfl) rfl rfl (tyX8_ok 3 (by decide)) (fun _ => rfl) (fun _ => rfl) (show LK101[50]? = some (.inl (8, [none, none, none, some none, some none])) by decide +kernel) (by decide) dX8_init_27 (fun hC => ?_)
  replace hC : CX (nG Γ ad2) cX8_init RX8 LK102 2 1 := hC
  show GX (nG Γ ad2) LK102 _ _ [some (.ref (ad2 50))] [] μZ _
  refine GX_aload_n hC dX8_init_30 rfl ?_
  refine GX_bipush hC 100 dX8_init_31 rfl ?_
  refine GX_newI hC 100 (alOK_nG hal) ac_int (by decide) rfl (by decide) (by decide +kernel) (kX_nG (hkk _ _ (by decide) (by decide))) dX8_init_33 (fun ad => [some (.ref (ad 50))]) (fun ad => [.ref (ad 50)]) rfl rfl (fun a b h => ⟨by first | rfl | simp only [h 50 (by decide +kernel)], by first | rfl | simp only [h 50 (by decide +kernel)]⟩) (fun ad3 e3 hC => ?_)
  rw [nG_nG] at hC ⊢
  have E3 : ∀ i, i < 51 → ad3 i = gad Γ i := fun i hi => (e3 i (Nat.lt_of_lt_of_le hi (by decide +kernel))).trans (E2 i hi)
  replace hC : CX (nG Γ ad3) cX8_init RX8 LK103 2 1 := hC
  show GX (nG Γ ad3) LK103 _ _ [some (.ref (ad3 50))] [.ref (ad3 52), .ref (ad3 50)] μZ _
  refine GX_putR (a := 50) (b := 52) (L := LK103) hC fkX8_28 (inInit_nG hin) (show vwCl[8]? = some (RX8, TX8, 5) from rfl) rfl rfl (tyX8_ok 4 (by decide)) (fun _ => rfl) (fun _ => rfl) (show LK103[50]? = some (.inl (8, [none, none, none, some (some 51), some none])) by decide +kernel) (by decide) dX8_init_35 (fun hC => ?_)
  replace hC : CX (nG Γ ad3) cX8_init RX8 LK104 2 1 := hC
  show GX (nG Γ ad3) LK104 _ _ [some (.ref (ad3 50))] [] μZ _
  exact GX_vretI hC (RXI_nG hR) E3 dX8_init_38
set_option maxRecDepth 100000 in
set_option maxHeartbeats 4000000 in
theorem K_Move_54 {l : Launch} : CnI l yX4_init cX4_init 1 1 0 0 LK107 LK107 54 := by
  refine CnI.of (by decide +kernel) rfl (by decide) (fun Γ hl hC hR hkk hal hin hao => ?_)
  subst hl
  have E0 : ∀ i, i < 55 → gad Γ i = gad Γ i := fun _ _ => rfl
  replace hR : RXI Γ 55 0 0 (gad Γ) LK107 := hR
  replace hC : CX Γ cX4_init RX4 LK107 1 1 := hC
  show GX Γ LK107 _ _ [some (.ref (gad Γ 54))] [] μZ _
  refine GX_aload_n hC dX4_init_0 rfl ?_
  refine GX_oinit hC oiX4_3 (by decide) (Nat.le_of_ble_eq_true rfl) dX4_init_1 ?_
  refine GX_aload_n hC dX4_init_4 rfl ?_
  refine GX_iconst hC 0 dX4_init_5 rfl ?_
  refine GX_putI (a := 54) (L := LK107) (μ := μZ) (x := 0) hC fkX4_9 ftX4_0 (show LK107[54]? = some (.inl (4, [none, none, none, none, none])) by decide +kernel) rfl dX4_init_6 ?_
  rw [show ∀ z w : Nat, si μZ z w 0 = μZ from si_Z]
  refine GX_aload_n hC dX4_init_9 rfl ?_
  refine GX_iconst hC 0 dX4_init_10 rfl ?_
  refine GX_putI (a := 54) (L := LK107) (μ := μZ) (x := 0) hC fkX4_15 ftX4_1 (show LK107[54]? = some (.inl (4, [none, none, none, none, none])) by decide +kernel) rfl dX4_init_11 ?_
  rw [show ∀ z w : Nat, si μZ z w 0 = μZ from si_Z]
  refine GX_aload_n hC dX4_init_14 rfl ?_
  refine GX_iconst hC 0 dX4_init_15 rfl ?_
  refine GX_putI (a := 54) (L := LK107) (μ := μZ) (x := 0) hC fkX4_18 ftX4_2 (show LK107[54]? = some (.inl (4, [none, none, none, none, none])) by decide +kernel) rfl dX4_init_16 ?_
  rw [show ∀ z w : Nat, si μZ z w 0 = μZ from si_Z]
  refine GX_aload_n hC dX4_init_19 rfl ?_
  refine GX_iconst hC 0 dX4_init_20 rfl ?_
  refine GX_putI (a := 54) (L := LK107) (μ := μZ) (x := 0) hC fkX4_21 ftX4_3 (show LK107[54]? = some (.inl (4, [none, none, none, none, none])) by decide +kernel) rfl dX4_init_21 ?_
  rw [show ∀ z w : Nat, si μZ z w 0 = μZ from si_Z]
  refine GX_aload_n hC dX4_init_24 rfl ?_
  refine GX_iconst hC 0 dX4_init_25 rfl ?_
  refine GX_putI (a := 54) (L := LK107) (μ := μZ) (x := 0) hC fkX4_24 ftX4_4 (show LK107[54]? = some (.inl (4, [none, none, none, none, none])) by decide +kernel) rfl dX4_init_26 ?_
  rw [show ∀ z w : Nat, si μZ z w 0 = μZ from si_Z]
  exact GX_vretI hC hR E0 dX4_init_29
set_option maxRecDepth 100000 in
set_option maxHeartbeats 4000000 in
theorem K_Shelf_53 {l : Launch} : CnI l yX8_init cX8_init 1 2 2 105 LK106 LK110 53 := by
  refine CnI.of (by decide +kernel) rfl (by decide) (fun Γ hl hC hR hkk hal hin hao => ?_)
  subst hl
  have E0 : ∀ i, i < 54 → gad Γ i = gad Γ i := fun _ _ => rfl
  replace hR : RXI Γ 54 2 105 (gad Γ) LK110 := hR
  replace hC : CX Γ cX8_init RX8 LK106 2 1 := hC
  show GX Γ LK106 _ _ [some (.ref (gad Γ 53))] [] μZ _
  refine GX_aload_n hC dX8_init_0 rfl ?_
  refine GX_oinit hC oiX8_3 (by decide) (Nat.le_of_ble_eq_true rfl) dX8_init_1 ?_
  refine GX_aload_n hC dX8_init_4 rfl ?_
  refine GX_iconst hC 0 dX8_init_5 rfl ?_
  refine GX_putI (a := 53) (L := LK106) (μ := μZ) (x := 0) hC fkX8_9 ftX8_0 (show LK106[53]? = some (.inl (8, [none, none, none, some none, some none])) by decide +kernel) rfl dX8_init_6 ?_
  rw [show ∀ z w : Nat, si μZ z w 0 = μZ from si_Z]
  refine GX_aload_n hC dX8_init_9 rfl ?_
  refine GX_iconst hC 0 dX8_init_10 rfl ?_
  refine GX_putI (a := 53) (L := LK106) (μ := μZ) (x := 0) hC fkX8_15 ftX8_1 (show LK106[53]? = some (.inl (8, [none, none, none, some none, some none])) by decide +kernel) rfl dX8_init_11 ?_
  rw [show ∀ z w : Nat, si μZ z w 0 = μZ from si_Z]
  refine GX_aload_n hC dX8_init_14 rfl ?_
  refine GX_iconst hC 0 dX8_init_15 rfl ?_
  refine GX_putI (a := 53) (L := LK106) (μ := μZ) (x := 0) hC fkX8_18 ftX8_2 (show LK106[53]? = some (.inl (8, [none, none, none, some none, some none])) by decide +kernel) rfl dX8_init_16 ?_
  rw [show ∀ z w : Nat, si μZ z w 0 = μZ from si_Z]
  refine GX_aload_n hC dX8_init_19 rfl ?_
  refine GX_newO (ci := 4) hC [none, none, none, none, none] hal clX8_21 inX4 iiX4 uwX4 tyX4_ok rfl ⟨rfl, by decide +kernel⟩ (by decide +kernel) (hkk _ _ (by decide) (by decide)) dX8_init_20 (fun ad => [some (.ref (ad 53))]) (fun ad => [.ref (ad 53)]) rfl rfl (fun a b h => ⟨by first | rfl | simp only [h 53 (by decide +kernel)], by first | rfl | simp only [h 53 (by decide +kernel)]⟩) (fun ad1 e1 hC => ?_)
  have E1 : ∀ i, i < 54 → ad1 i = gad Γ i := fun i hi => (e1 i (Nat.lt_of_lt_of_le hi (by decide +kernel))).trans (E0 i hi)
  replace hC : CX (nG Γ ad1) cX8_init RX8 LK107 2 1 := hC
  show GX (nG Γ ad1) LK107 _ _ [some (.ref (ad1 53))] [.ref (ad1 54), .ref (ad1 53)] μZ _
  refine GX_dup hC dX8_init_23 rfl ?_
  refine GX_callI (t := 54) hC K_Move_54 okiX4 ckX8_23 (alOK_nG hal) hao (by decide) (by decide) (kX_nG (hkk _ _ (by decide) (by decide))) (Nat.le_of_ble_eq_true rfl) dX8_init_24 (fun ad => [some (.ref (ad 53))]) (fun ad => [.ref (ad 54), .ref (ad 53)]) rfl rfl (fun a b h => ⟨by first | rfl | simp only [h 53 (by decide +kernel), h 54 (by decide +kernel)], by first | rfl | simp only [h 53 (by decide +kernel), h 54 (by decide +kernel)]⟩) (fun ad2 e2 hC => ?_)
  rw [nG_nG] at hC ⊢
  have E2 : ∀ i, i < 54 → ad2 i = gad Γ i := fun i hi => (e2 i (Nat.lt_of_lt_of_le hi (by decide +kernel))).trans (E1 i hi)
  replace hC : CX (nG Γ ad2) cX8_init RX8 LK107 2 1 := hC
  show GX (nG Γ ad2) LK107 _ _ [some (.ref (ad2 53))] [.ref (ad2 54), .ref (ad2 53)] μZ _
  refine GX_putR (a := 53) (b := 54) (L := LK107) hC fkX8_24 (inInit_nG hin) (show vwCl[8]? = some (RX8, TX8, 5) from rfl) rfl rfl (tyX8_ok 3 (by decide)) (fun _ => rfl) (fun _ => rfl) (show LK107[53]? = some (.inl (8, [none, none, none, some none, some none])) by decide +kernel) (by decide) dX8_init_27 (fun hC => ?_)
  replace hC : CX (nG Γ ad2) cX8_init RX8 LK108 2 1 := hC
  show GX (nG Γ ad2) LK108 _ _ [some (.ref (ad2 53))] [] μZ _
  refine GX_aload_n hC dX8_init_30 rfl ?_
  refine GX_bipush hC 100 dX8_init_31 rfl ?_
  refine GX_newI hC 100 (alOK_nG hal) ac_int (by decide) rfl (by decide) (by decide +kernel) (kX_nG (hkk _ _ (by decide) (by decide))) dX8_init_33 (fun ad => [some (.ref (ad 53))]) (fun ad => [.ref (ad 53)]) rfl rfl (fun a b h => ⟨by first | rfl | simp only [h 53 (by decide +kernel)], by first | rfl | simp only [h 53 (by decide +kernel)]⟩) (fun ad3 e3 hC => ?_)
  rw [nG_nG] at hC ⊢
  have E3 : ∀ i, i < 54 → ad3 i = gad Γ i := fun i hi => (e3 i (Nat.lt_of_lt_of_le hi (by decide +kernel))).trans (E2 i hi)
  replace hC : CX (nG Γ ad3) cX8_init RX8 LK109 2 1 := hC
  show GX (nG Γ ad3) LK109 _ _ [some (.ref (ad3 53))] [.ref (ad3 55), .ref (ad3 53)] μZ _
  refine GX_putR (a := 53) (b := 55) (L := LK109) hC fkX8_28 (inInit_nG hin) (show vwCl[8]? = some (RX8, TX8, 5) from rfl) rfl rfl (tyX8_ok 4 (by decide)) (fun _ => rfl) (fun _ => rfl) (show LK109[53]? = some (.inl (8, [none, none, none, some (some 54), some none])) by decide +kernel) (by decide) dX8_init_35 (fun hC => ?_)
  replace hC : CX (nG Γ ad3) cX8_init RX8 LK110 2 1 := hC
  show GX (nG Γ ad3) LK110 _ _ [some (.ref (ad3 53))] [] μZ _
  exact GX_vretI hC (RXI_nG hR) E3 dX8_init_38
set_option maxRecDepth 100000 in
set_option maxHeartbeats 4000000 in
theorem K_Move_57 {l : Launch} : CnI l yX4_init cX4_init 1 1 0 0 LK113 LK113 57 := by
  refine CnI.of (by decide +kernel) rfl (by decide) (fun Γ hl hC hR hkk hal hin hao => ?_)
  subst hl
  have E0 : ∀ i, i < 58 → gad Γ i = gad Γ i := fun _ _ => rfl
  replace hR : RXI Γ 58 0 0 (gad Γ) LK113 := hR
  replace hC : CX Γ cX4_init RX4 LK113 1 1 := hC
  show GX Γ LK113 _ _ [some (.ref (gad Γ 57))] [] μZ _
  refine GX_aload_n hC dX4_init_0 rfl ?_
  refine GX_oinit hC oiX4_3 (by decide) (Nat.le_of_ble_eq_true rfl) dX4_init_1 ?_
  refine GX_aload_n hC dX4_init_4 rfl ?_
  refine GX_iconst hC 0 dX4_init_5 rfl ?_
  refine GX_putI (a := 57) (L := LK113) (μ := μZ) (x := 0) hC fkX4_9 ftX4_0 (show LK113[57]? = some (.inl (4, [none, none, none, none, none])) by decide +kernel) rfl dX4_init_6 ?_
  rw [show ∀ z w : Nat, si μZ z w 0 = μZ from si_Z]
  refine GX_aload_n hC dX4_init_9 rfl ?_
  refine GX_iconst hC 0 dX4_init_10 rfl ?_
  refine GX_putI (a := 57) (L := LK113) (μ := μZ) (x := 0) hC fkX4_15 ftX4_1 (show LK113[57]? = some (.inl (4, [none, none, none, none, none])) by decide +kernel) rfl dX4_init_11 ?_
  rw [show ∀ z w : Nat, si μZ z w 0 = μZ from si_Z]
  refine GX_aload_n hC dX4_init_14 rfl ?_
  refine GX_iconst hC 0 dX4_init_15 rfl ?_
  refine GX_putI (a := 57) (L := LK113) (μ := μZ) (x := 0) hC fkX4_18 ftX4_2 (show LK113[57]? = some (.inl (4, [none, none, none, none, none])) by decide +kernel) rfl dX4_init_16 ?_
  rw [show ∀ z w : Nat, si μZ z w 0 = μZ from si_Z]
  refine GX_aload_n hC dX4_init_19 rfl ?_
  refine GX_iconst hC 0 dX4_init_20 rfl ?_
  refine GX_putI (a := 57) (L := LK113) (μ := μZ) (x := 0) hC fkX4_21 ftX4_3 (show LK113[57]? = some (.inl (4, [none, none, none, none, none])) by decide +kernel) rfl dX4_init_21 ?_
  rw [show ∀ z w : Nat, si μZ z w 0 = μZ from si_Z]
  refine GX_aload_n hC dX4_init_24 rfl ?_
  refine GX_iconst hC 0 dX4_init_25 rfl ?_
  refine GX_putI (a := 57) (L := LK113) (μ := μZ) (x := 0) hC fkX4_24 ftX4_4 (show LK113[57]? = some (.inl (4, [none, none, none, none, none])) by decide +kernel) rfl dX4_init_26 ?_
  rw [show ∀ z w : Nat, si μZ z w 0 = μZ from si_Z]
  exact GX_vretI hC hR E0 dX4_init_29
set_option maxRecDepth 100000 in
set_option maxHeartbeats 4000000 in
theorem K_Shelf_56 {l : Launch} : CnI l yX8_init cX8_init 1 2 2 105 LK112 LK116 56 := by
  refine CnI.of (by decide +kernel) rfl (by decide) (fun Γ hl hC hR hkk hal hin hao => ?_)
  subst hl
  have E0 : ∀ i, i < 57 → gad Γ i = gad Γ i := fun _ _ => rfl
  replace hR : RXI Γ 57 2 105 (gad Γ) LK116 := hR
  replace hC : CX Γ cX8_init RX8 LK112 2 1 := hC
  show GX Γ LK112 _ _ [some (.ref (gad Γ 56))] [] μZ _
  refine GX_aload_n hC dX8_init_0 rfl ?_
  refine GX_oinit hC oiX8_3 (by decide) (Nat.le_of_ble_eq_true rfl) dX8_init_1 ?_
  refine GX_aload_n hC dX8_init_4 rfl ?_
  refine GX_iconst hC 0 dX8_init_5 rfl ?_
  refine GX_putI (a := 56) (L := LK112) (μ := μZ) (x := 0) hC fkX8_9 ftX8_0 (show LK112[56]? = some (.inl (8, [none, none, none, some none, some none])) by decide +kernel) rfl dX8_init_6 ?_
  rw [show ∀ z w : Nat, si μZ z w 0 = μZ from si_Z]
  refine GX_aload_n hC dX8_init_9 rfl ?_
  refine GX_iconst hC 0 dX8_init_10 rfl ?_
  refine GX_putI (a := 56) (L := LK112) (μ := μZ) (x := 0) hC fkX8_15 ftX8_1 (show LK112[56]? = some (.inl (8, [none, none, none, some none, some none])) by decide +kernel) rfl dX8_init_11 ?_
  rw [show ∀ z w : Nat, si μZ z w 0 = μZ from si_Z]
  refine GX_aload_n hC dX8_init_14 rfl ?_
  refine GX_iconst hC 0 dX8_init_15 rfl ?_
  refine GX_putI (a := 56) (L := LK112) (μ := μZ) (x := 0) hC fkX8_18 ftX8_2 (show LK112[56]? = some (.inl (8, [none, none, none, some none, some none])) by decide +kernel) rfl dX8_init_16 ?_
  rw [show ∀ z w : Nat, si μZ z w 0 = μZ from si_Z]
  refine GX_aload_n hC dX8_init_19 rfl ?_
  refine GX_newO (ci := 4) hC [none, none, none, none, none] hal clX8_21 inX4 iiX4 uwX4 tyX4_ok rfl ⟨rfl, by decide +kernel⟩ (by decide +kernel) (hkk _ _ (by decide) (by decide)) dX8_init_20 (fun ad => [some (.ref (ad 56))]) (fun ad => [.ref (ad 56)]) rfl rfl (fun a b h => ⟨by first | rfl | simp only [h 56 (by decide +kernel)], by first | rfl | simp only [h 56 (by decide +kernel)]⟩) (fun ad1 e1 hC => ?_)
  have E1 : ∀ i, i < 57 → ad1 i = gad Γ i := fun i hi => (e1 i (Nat.lt_of_lt_of_le hi (by decide +kernel))).trans (E0 i hi)
  replace hC : CX (nG Γ ad1) cX8_init RX8 LK113 2 1 := hC
  show GX (nG Γ ad1) LK113 _ _ [some (.ref (ad1 56))] [.ref (ad1 57), .ref (ad1 56)] μZ _
  refine GX_dup hC dX8_init_23 rfl ?_
  refine GX_callI (t := 57) hC K_Move_57 okiX4 ckX8_23 (alOK_nG hal) hao (by decide) (by decide) (kX_nG (hkk _ _ (by decide) (by decide))) (Nat.le_of_ble_eq_true rfl) dX8_init_24 (fun ad => [some (.ref (ad 56))]) (fun ad => [.ref (ad 57), .ref (ad 56)]) rfl rfl (fun a b h => ⟨by first | rfl | simp only [h 56 (by decide +kernel), h 57 (by decide +kernel)], by first | rfl | simp only [h 56 (by decide +kernel), h 57 (by decide +kernel)]⟩) (fun ad2 e2 hC => ?_)
  rw [nG_nG] at hC ⊢
  have E2 : ∀ i, i < 57 → ad2 i = gad Γ i := fun i hi => (e2 i (Nat.lt_of_lt_of_le hi (by decide +kernel))).trans (E1 i hi)
  replace hC : CX (nG Γ ad2) cX8_init RX8 LK113 2 1 := hC
  show GX (nG Γ ad2) LK113 _ _ [some (.ref (ad2 56))] [.ref (ad2 57), .ref (ad2 56)] μZ _
  refine GX_putR (a := 56) (b := 57) (L := LK113) hC fkX8_24 (inInit_nG hin) (show vwCl[8]? = some (RX8, TX8, 5) from rfl) rfl rfl (tyX8_ok 3 (by decide)) (fun _ => rfl) (fun _ => rfl) (show LK113[56]? = some (.inl (8, [none, none, none, some none, some none])) by decide +kernel) (by decide) dX8_init_27 (fun hC => ?_)
  replace hC : CX (nG Γ ad2) cX8_init RX8 LK114 2 1 := hC
  show GX (nG Γ ad2) LK114 _ _ [some (.ref (ad2 56))] [] μZ _
  refine GX_aload_n hC dX8_init_30 rfl ?_
  refine GX_bipush hC 100 dX8_init_31 rfl ?_
  refine GX_newI hC 100 (alOK_nG hal) ac_int (by decide) rfl (by decide) (by decide +kernel) (kX_nG (hkk _ _ (by decide) (by decide))) dX8_init_33 (fun ad => [some (.ref (ad 56))]) (fun ad => [.ref (ad 56)]) rfl rfl (fun a b h => ⟨by first | rfl | simp only [h 56 (by decide +kernel)], by first | rfl | simp only [h 56 (by decide +kernel)]⟩) (fun ad3 e3 hC => ?_)
  rw [nG_nG] at hC ⊢
  have E3 : ∀ i, i < 57 → ad3 i = gad Γ i := fun i hi => (e3 i (Nat.lt_of_lt_of_le hi (by decide +kernel))).trans (E2 i hi)
  replace hC : CX (nG Γ ad3) cX8_init RX8 LK115 2 1 := hC
  show GX (nG Γ ad3) LK115 _ _ [some (.ref (ad3 56))] [.ref (ad3 58), .ref (ad3 56)] μZ _
  refine GX_putR (a := 56) (b := 58) (L := LK115) hC fkX8_28 (inInit_nG hin) (show vwCl[8]? = some (RX8, TX8, 5) from rfl) rfl rfl (tyX8_ok 4 (by decide)) (fun _ => rfl) (fun _ => rfl) (show LK115[56]? = some (.inl (8, [none, none, none, some (some 57), some none])) by decide +kernel) (by decide) dX8_init_35 (fun hC => ?_)
  replace hC : CX (nG Γ ad3) cX8_init RX8 LK116 2 1 := hC
  show GX (nG Γ ad3) LK116 _ _ [some (.ref (ad3 56))] [] μZ _
  exact GX_vretI hC (RXI_nG hR) E3 dX8_init_38
set_option maxRecDepth 100000 in
set_option maxHeartbeats 4000000 in
theorem K_Move_60 {l : Launch} : CnI l yX4_init cX4_init 1 1 0 0 LK119 LK119 60 := by
  refine CnI.of (by decide +kernel) rfl (by decide) (fun Γ hl hC hR hkk hal hin hao => ?_)
  subst hl
  have E0 : ∀ i, i < 61 → gad Γ i = gad Γ i := fun _ _ => rfl
  replace hR : RXI Γ 61 0 0 (gad Γ) LK119 := hR
  replace hC : CX Γ cX4_init RX4 LK119 1 1 := hC
  show GX Γ LK119 _ _ [some (.ref (gad Γ 60))] [] μZ _
  refine GX_aload_n hC dX4_init_0 rfl ?_
  refine GX_oinit hC oiX4_3 (by decide) (Nat.le_of_ble_eq_true rfl) dX4_init_1 ?_
  refine GX_aload_n hC dX4_init_4 rfl ?_
  refine GX_iconst hC 0 dX4_init_5 rfl ?_
  refine GX_putI (a := 60) (L := LK119) (μ := μZ) (x := 0) hC fkX4_9 ftX4_0 (show LK119[60]? = some (.inl (4, [none, none, none, none, none])) by decide +kernel) rfl dX4_init_6 ?_
  rw [show ∀ z w : Nat, si μZ z w 0 = μZ from si_Z]
  refine GX_aload_n hC dX4_init_9 rfl ?_
  refine GX_iconst hC 0 dX4_init_10 rfl ?_
  refine GX_putI (a := 60) (L := LK119) (μ := μZ) (x := 0) hC fkX4_15 ftX4_1 (show LK119[60]? = some (.inl (4, [none, none, none, none, none])) by decide +kernel) rfl dX4_init_11 ?_
  rw [show ∀ z w : Nat, si μZ z w 0 = μZ from si_Z]
  refine GX_aload_n hC dX4_init_14 rfl ?_
  refine GX_iconst hC 0 dX4_init_15 rfl ?_
  refine GX_putI (a := 60) (L := LK119) (μ := μZ) (x := 0) hC fkX4_18 ftX4_2 (show LK119[60]? = some (.inl (4, [none, none, none, none, none])) by decide +kernel) rfl dX4_init_16 ?_
  rw [show ∀ z w : Nat, si μZ z w 0 = μZ from si_Z]
  refine GX_aload_n hC dX4_init_19 rfl ?_
  refine GX_iconst hC 0 dX4_init_20 rfl ?_
  refine GX_putI (a := 60) (L := LK119) (μ := μZ) (x := 0) hC fkX4_21 ftX4_3 (show LK119[60]? = some (.inl (4, [none, none, none, none, none])) by decide +kernel) rfl dX4_init_21 ?_
  rw [show ∀ z w : Nat, si μZ z w 0 = μZ from si_Z]
  refine GX_aload_n hC dX4_init_24 rfl ?_
  refine GX_iconst hC 0 dX4_init_25 rfl ?_
  refine GX_putI (a := 60) (L := LK119) (μ := μZ) (x := 0) hC fkX4_24 ftX4_4 (show LK119[60]? = some (.inl (4, [none, none, none, none, none])) by decide +kernel) rfl dX4_init_26 ?_
  rw [show ∀ z w : Nat, si μZ z w 0 = μZ from si_Z]
  exact GX_vretI hC hR E0 dX4_init_29
