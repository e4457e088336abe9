set_option maxRecDepth 100000 in
set_option maxHeartbeats 4000000 in
theorem K_Land_1 {l : Launch} : CnI l yX2_init cX2_init 1 1 6 72 LK2 LK14 1 := by
  refine CnI.of (by decide +kernel) rfl (by decide) (fun Γ hl hC hR hkk hal hin hao => ?_)
  subst hl
  have E0 : ∀ i, i < 2 → gad Γ i = gad Γ i := fun _ _ => rfl
  replace hR : RXI Γ 2 6 72 (gad Γ) LK14 := hR
  replace hC : CX Γ cX2_init RX2 LK2 1 1 := hC
  show GX Γ LK2 _ _ [some (.ref (gad Γ 1))] [] μZ _
  refine GX_aload_n hC dX2_init_0 rfl ?_
  refine GX_oinit hC oiX2_3 (by decide) (Nat.le_of_ble_eq_true rfl) dX2_init_1 ?_
  refine GX_aload_n hC dX2_init_4 rfl ?_
  refine GX_iconst hC 0 dX2_init_5 rfl ?_
  refine GX_putI (a := 1) (L := LK2) (μ := μZ) (x := 0) hC fkX2_9 ftX2_0 (show LK2[1]? = some (.inl (2, [none, none, none, none, some none, some none, some none, some none, some none, some none])) by decide +kernel) rfl dX2_init_6 ?_
  rw [show ∀ z w : Nat, si μZ z w 0 = μZ from si_Z]
  refine GX_aload_n hC dX2_init_9 rfl ?_
  refine GX_iconst hC 0 dX2_init_10 rfl ?_
  refine GX_putI (a := 1) (L := LK2) (μ := μZ) (x := 0) hC fkX2_15 ftX2_1 (show LK2[1]? = some (.inl (2, [none, none, none, none, some none, some none, some none, some none, some none, some none])) by decide +kernel) rfl dX2_init_11 ?_
  rw [show ∀ z w : Nat, si μZ z w 0 = μZ from si_Z]
  refine GX_aload_n hC dX2_init_14 rfl ?_
  refine GX_iconst hC 0 dX2_init_15 rfl ?_
  refine GX_putZ (a := 1) (L := LK2) (μ := μZ) (b := false) hC fkX2_18 ftX2_2 (show LK2[1]? = some (.inl (2, [none, none, none, none, some none, some none, some none, some none, some none, some none])) by decide +kernel) rfl dX2_init_16 ?_
  rw [show ∀ z w : Nat, si μZ z w (bI false) = μZ from si_Z]
  refine GX_aload_n hC dX2_init_19 rfl ?_
  refine GX_iconst hC 0 dX2_init_20 rfl ?_
  refine GX_putZ (a := 1) (L := LK2) (μ := μZ) (b := false) hC fkX2_22 ftX2_3 (show LK2[1]? = some (.inl (2, [none, none, none, none, some none, some none, some none, some none, some none, some none])) by decide +kernel) rfl dX2_init_21 ?_
  rw [show ∀ z w : Nat, si μZ z w (bI false) = μZ from si_Z]
  refine GX_aload_n hC dX2_init_24 rfl ?_
  refine GX_bipush hC 6 dX2_init_25 rfl ?_
  refine GX_newI hC 6 hal ac_int (by decide) rfl (by decide) (by decide +kernel) (hkk _ _ (by decide) (by decide)) dX2_init_27 (fun ad => [some (.ref (ad 1))]) (fun ad => [.ref (ad 1)]) rfl rfl (fun a b h => ⟨by first | rfl | simp only [h 1 (by decide +kernel)], by first | rfl | simp only [h 1 (by decide +kernel)]⟩) (fun ad1 e1 hC => ?_)
  have E1 : ∀ i, i < 2 → ad1 i = gad Γ i := fun i hi => (e1 i (Nat.lt_of_lt_of_le hi (by decide +kernel))).trans (E0 i hi)
  replace hC : CX (nG Γ ad1) cX2_init RX2 LK3 1 1 := hC
  show GX (nG Γ ad1) LK3 _ _ [some (.ref (ad1 1))] [.ref (ad1 2), .ref (ad1 1)] μZ _
  refine GX_putR (a := 1) (b := 2) (L := LK3) hC fkX2_25 (inInit_nG hin) (show vwCl[2]? = some (RX2, TX2, 10) from rfl) rfl rfl (tyX2_ok 4 (by decide)) (fun _ => rfl) (fun _ => rfl) (show LK3[1]? = some (.inl (2, [none, none, none, none, some none, some none, some none, some none, some none, some none])) by decide +kernel) (by decide) dX2_init_29 (fun hC => ?_)
  replace hC : CX (nG Γ ad1) cX2_init RX2 LK4 1 1 := hC
  show GX (nG Γ ad1) LK4 _ _ [some (.ref (ad1 1))] [] μZ _
  refine GX_aload_n hC dX2_init_32 rfl ?_
  refine GX_bipush hC 6 dX2_init_33 rfl ?_
  refine GX_newI hC 6 (alOK_nG hal) ac_int (by decide) rfl (by decide) (by decide +kernel) (kX_nG (hkk _ _ (by decide) (by decide))) dX2_init_35 (fun ad => [some (.ref (ad 1))]) (fun ad => [.ref (ad 1)]) rfl rfl (fun a b h => ⟨by first | rfl | simp only [h 1 (by decide +kernel)], by first | rfl | simp only [h 1 (by decide +kernel)]⟩) (fun ad2 e2 hC => ?_)
  rw [nG_nG] at hC ⊢
  have E2 : ∀ i, i < 2 → ad2 i = gad Γ i := fun i hi => (e2 i (Nat.lt_of_lt_of_le hi (by decide +kernel))).trans (E1 i hi)
  replace hC : CX (nG Γ ad2) cX2_init RX2 LK5 1 1 := hC
  show GX (nG Γ ad2) LK5 _ _ [some (.ref (ad2 1))] [.ref (ad2 3), .ref (ad2 1)] μZ _
  refine GX_putR (a := 1) (b := 3) (L := LK5) hC fkX2_29 (inInit_nG hin) (show vwCl[2]? = some (RX2, TX2, 10) from rfl) rfl rfl (tyX2_ok 5 (by decide)) (fun _ => rfl) (fun _ => rfl) (show LK5[1]? = some (.inl (2, [none, none, none, none, some (some 2), some none, some none, some none, some none, some none])) by decide +kernel) (by decide) dX2_init_37 (fun hC => ?_)
  replace hC : CX (nG Γ ad2) cX2_init RX2 LK6 1 1 := hC
  show GX (nG Γ ad2) LK6 _ _ [some (.ref (ad2 1))] [] μZ _
  refine GX_aload_n hC dX2_init_40 rfl ?_
  refine GX_bipush hC 36 dX2_init_41 rfl ?_
  refine GX_newI hC 36 (alOK_nG hal) ac_int (by decide) rfl (by decide) (by decide +kernel) (kX_nG (hkk _ _ (by decide) (by decide))) dX2_init_43 (fun ad => [some (.ref (ad 1))]) (fun ad => [.ref (ad 1)]) rfl rfl (fun a b h => ⟨by first | rfl | simp only [h 1 (by decide +kernel)], by first | rfl | simp only [h 1 (by decide +kernel)]⟩) (fun ad3 e3 hC => ?_)
  rw [nG_nG] at hC ⊢
  have E3 : ∀ i, i < 2 → ad3 i = gad Γ i := fun i hi => (e3 i (Nat.lt_of_lt_of_le hi (by decide +kernel))).trans (E2 i hi)
  replace hC : CX (nG Γ ad3) cX2_init RX2 LK7 1 1 := hC
  show GX (nG Γ ad3) LK7 _ _ [some (.ref (ad3 1))] [.ref (ad3 4), .ref (ad3 1)] μZ _
  refine GX_putR (a := 1) (b := 4) (L := LK7) hC fkX2_32 (inInit_nG hin) (show vwCl[2]? = some (RX2, TX2, 10) from rfl) rfl rfl (tyX2_ok 6 (by decide)) (fun _ => rfl) (fun _ => rfl) (show LK7[1]? = some (.inl (2, [none, none, none, none, some (some 2), some (some 3), some none, some none, some none, some none])) by decide +kernel) (by decide) dX2_init_45 (fun hC => ?_)
  replace hC : CX (nG Γ ad3) cX2_init RX2 LK8 1 1 := hC
  show GX (nG Γ ad3) LK8 _ _ [some (.ref (ad3 1))] [] μZ _
  refine GX_aload_n hC dX2_init_48 rfl ?_
  refine GX_iconst hC 3 dX2_init_49 rfl ?_
  refine GX_newI hC 3 (alOK_nG hal) ac_int (by decide) rfl (by decide) (by decide +kernel) (kX_nG (hkk _ _ (by decide) (by decide))) dX2_init_50 (fun ad => [some (.ref (ad 1))]) (fun ad => [.ref (ad 1)]) rfl rfl (fun a b h => ⟨by first | rfl | simp only [h 1 (by decide +kernel)], by first | rfl | simp only [h 1 (by decide +kernel)]⟩) (fun ad4 e4 hC => ?_)
  rw [nG_nG] at hC ⊢
  have E4 : ∀ i, i < 2 → ad4 i = gad Γ i := fun i hi => (e4 i (Nat.lt_of_lt_of_le hi (by decide +kernel))).trans (E3 i hi)
  replace hC : CX (nG Γ ad4) cX2_init RX2 LK9 1 1 := hC
  show GX (nG Γ ad4) LK9 _ _ [some (.ref (ad4 1))] [.ref (ad4 5), .ref (ad4 1)] μZ _
  refine GX_putR (a := 1) (b := 5) (L := LK9) hC fkX2_35 (inInit_nG hin) (show vwCl[2]? = some (RX2, TX2, 10) from rfl) rfl rfl (tyX2_ok 7 (by decide)) (fun _ => rfl) (fun _ => rfl) (show LK9[1]? = some (.inl (2, [none, none, none, none, some (some 2), some (some 3), some (some 4), some none, some none, some none])) by decide +kernel) (by decide) dX2_init_52 (fun hC => ?_)
  replace hC : CX (nG Γ ad4) cX2_init RX2 LK10 1 1 := hC
  show GX (nG Γ ad4) LK10 _ _ [some (.ref (ad4 1))] [] μZ _
  refine GX_aload_n hC dX2_init_55 rfl ?_
  refine GX_iconst hC 3 dX2_init_56 rfl ?_
  refine GX_newI hC 3 (alOK_nG hal) ac_int (by decide) rfl (by decide) (by decide +kernel) (kX_nG (hkk _ _ (by decide) (by decide))) dX2_init_57 (fun ad => [some (.ref (ad 1))]) (fun ad => [.ref (ad 1)]) rfl rfl (fun a b h => ⟨by first | rfl | simp only [h 1 (by decide +kernel)], by first | rfl | simp only [h 1 (by decide +kernel)]⟩) (fun ad5 e5 hC => ?_)
  rw [nG_nG] at hC ⊢
  have E5 : ∀ i, i < 2 → ad5 i = gad Γ i := fun i hi => (e5 i (Nat.lt_of_lt_of_le hi (by decide +kernel))).trans (E4 i hi)
  replace hC : CX (nG Γ ad5) cX2_init RX2 LK11 1 1 := hC
  show GX (nG Γ ad5) LK11 _ _ [some (.ref (ad5 1))] [.ref (ad5 6), .ref (ad5 1)] μZ _
  refine GX_putR (a := 1) (b := 6) (L := LK11) hC fkX2_38 (inInit_nG hin) (show vwCl[2]? = some (RX2, TX2, 10) from rfl) rfl rfl (tyX2_ok 8 (by decide)) (fun _ => rfl) (fun _ => rfl) (show LK11[1]? = some (.inl (2, [none, none, none, none, some (some 2), some (some 3), some (some 4), some (some 5), some none, some none])) by decide +kernel) (by decide) dX2_init_59 (fun hC => ?_)
  replace hC : CX (nG Γ ad5) cX2_init RX2 LK12 1 1 := hC
  show GX (nG Γ ad5) LK12 _ _ [some (.ref (ad5 1))] [] μZ _
  refine GX_aload_n hC dX2_init_62 rfl ?_
  refine GX_bipush hC 18 dX2_init_63 rfl ?_
  refine GX_newI hC 18 (alOK_nG hal) ac_int (by decide) rfl (by decide) (by decide +kernel) (kX_nG (hkk _ _ (by decide) (by decide))) dX2_init_65 (fun ad => [some (.ref (ad 1))]) (fun ad => [.ref (ad 1)]) rfl rfl (fun a b h => ⟨by first | rfl | simp only [h 1 (by decide +kernel)], by first | rfl | simp only [h 1 (by decide +kernel)]⟩) (fun ad6 e6 hC => ?_)
  rw [nG_nG] at hC ⊢
  have E6 : ∀ i, i < 2 → ad6 i = gad Γ i := fun i hi => (e6 i (Nat.lt_of_lt_of_le hi (by decide +kernel))).trans (E5 i hi)
  replace hC : CX (nG Γ ad6) cX2_init RX2 LK13 1 1 := hC
  show GX (nG Γ ad6) LK13 _ _ [some (.ref (ad6 1))] [.ref (ad6 7), .ref (ad6 1)] μZ _
  refine GX_putR (a := 1) (b := 7) (L := LK13) hC fkX2_41 (inInit_nG hin) (show vwCl[2]? = some (RX2, TX2, 10) from rfl) rfl rfl (tyX2_ok 9 (by decide)) (fun _ => rfl) (fun _ => rfl) (show LK13[1]? = some (.inl (2, [none, none, none, none, some (some 2), some (some 3), some (some 4), some (some 5), some (some 6), some none])) by decide +kernel) (by decide) dX2_init_67 (fun hC => ?_)
  replace hC : CX (nG Γ ad6) cX2_init RX2 LK14 1 1 := hC
  show GX (nG Γ ad6) LK14 _ _ [some (.ref (ad6 1))] [] μZ _
  exact GX_vretI hC (RXI_nG hR) E6 dX2_init_70
set_option maxRecDepth 100000 in
set_option maxHeartbeats 4000000 in
theorem K_Land_8 {l : Launch} : CnI l yX2_init cX2_init 1 1 6 72 LK16 LK28 8 := by
  refine CnI.of (by decide +kernel) rfl (by decide) (fun Γ hl hC hR hkk hal hin hao => ?_)
  subst hl
  have E0 : ∀ i, i < 9 → gad Γ i = gad Γ i := fun _ _ => rfl
  replace hR : RXI Γ 9 6 72 (gad Γ) LK28 := hR
  replace hC : CX Γ cX2_init RX2 LK16 1 1 := hC
  show GX Γ LK16 _ _ [some (.ref (gad Γ 8))] [] μZ _
  refine GX_aload_n hC dX2_init_0 rfl ?_
  refine GX_oinit hC oiX2_3 (by decide) (Nat.le_of_ble_eq_true rfl) dX2_init_1 ?_
  refine GX_aload_n hC dX2_init_4 rfl ?_
  refine GX_iconst hC 0 dX2_init_5 rfl ?_
  refine GX_putI (a := 8) (L := LK16) (μ := μZ) (x := 0) hC fkX2_9 ftX2_0 (show LK16[8]? = some (.inl (2, [none, none, none, none, some none, some none, some none, some none, some none, some none])) by decide +kernel) rfl dX2_init_6 ?_
  rw [show ∀ z w : Nat, si μZ z w 0 = μZ from si_Z]
  refine GX_aload_n hC dX2_init_9 rfl ?_
  refine GX_iconst hC 0 dX2_init_10 rfl ?_
  refine GX_putI (a := 8) (L := LK16) (μ := μZ) (x := 0) hC fkX2_15 ftX2_1 (show LK16[8]? = some (.inl (2, [none, none, none, none, some none, some none, some none, some none, some none, some none])) by decide +kernel) rfl dX2_init_11 ?_
  rw [show ∀ z w : Nat, si μZ z w 0 = μZ from si_Z]
  refine GX_aload_n hC dX2_init_14 rfl ?_
  refine GX_iconst hC 0 dX2_init_15 rfl ?_
  refine GX_putZ (a := 8) (L := LK16) (μ := μZ) (b := false) hC fkX2_18 ftX2_2 (show LK16[8]? = some (.inl (2, [none, none, none, none, some none, some none, some none, some none, some none, some none])) by decide +kernel) rfl dX2_init_16 ?_
  rw [show ∀ z w : Nat, si μZ z w (bI false) = μZ from si_Z]
  refine GX_aload_n hC dX2_init_19 rfl ?_
  refine GX_iconst hC 0 dX2_init_20 rfl ?_
  refine GX_putZ (a := 8) (L := LK16) (μ := μZ) (b := false) hC fkX2_22 ftX2_3 (show LK16[8]? = some (.inl (2, [none, none, none, none, some none, some none, some none, some none, some none, some none])) by decide +kernel) rfl dX2_init_21 ?_
  rw [show ∀ z w : Nat, si μZ z w (bI false) = μZ from si_Z]
  refine GX_aload_n hC dX2_init_24 rfl ?_
  refine GX_bipush hC 6 dX2_init_25 rfl ?_
  refine GX_newI hC 6 hal ac_int (by decide) rfl (by decide) (by decide +kernel) (hkk _ _ (by decide) (by decide)) dX2_init_27 (fun ad => [some (.ref (ad 8))]) (fun ad => [.ref (ad 8)]) rfl rfl (fun a b h => ⟨by first | rfl | simp only [h 8 (by decide +kernel)], by first | rfl | simp only [h 8 (by decide +kernel)]⟩) (fun ad1 e1 hC => ?_)
  have E1 : ∀ i, i < 9 → ad1 i = gad Γ i := fun i hi => (e1 i (Nat.lt_of_lt_of_le hi (by decide +kernel))).trans (E0 i hi)
  replace hC : CX (nG Γ ad1) cX2_init RX2 LK17 1 1 := hC
  show GX (nG Γ ad1) LK17 _ _ [some (.ref (ad1 8))] [.ref (ad1 9), .ref (ad1 8)] μZ _
  refine GX_putR (a := 8) (b := 9) (L := LK17) hC fkX2_25 (inInit_nG hin) (show vwCl[2]? = some (RX2, TX2, 10) from rfl) rfl rfl (tyX2_ok 4 (by decide)) (fun _ => rfl) (fun _ => rfl) (show LK17[8]? = some (.inl (2, [none, none, none, none, some none, some none, some none, some none, some none, some none])) by decide +kernel) (by decide) dX2_init_29 (fun hC => ?_)
  replace hC : CX (nG Γ ad1) cX2_init RX2 LK18 1 1 := hC
  show GX (nG Γ ad1) LK18 _ _ [some (.ref (ad1 8))] [] μZ _
  refine GX_aload_n hC dX2_init_32 rfl ?_
  refine GX_bipush hC 6 dX2_init_33 rfl ?_
  refine GX_newI hC 6 (alOK_nG hal) ac_int (by decide) rfl (by decide) (by decide +kernel) (kX_nG (hkk _ _ (by decide) (by decide))) dX2_init_35 (fun ad => [some (.ref (ad 8))]) (fun ad => [.ref (ad 8)]) rfl rfl (fun a b h => ⟨by first | rfl | simp only [h 8 (by decide +kernel)], by first | rfl | simp only [h 8 (by decide +kernel)]⟩) (fun ad2 e2 hC => ?_)
  rw [nG_nG] at hC ⊢
  have E2 : ∀ i, i < 9 → ad2 i = gad Γ i := fun i hi => (e2 i (Nat.lt_of_lt_of_le hi (by decide +kernel))).trans (E1 i hi)
  replace hC : CX (nG Γ ad2) cX2_init RX2 LK19 1 1 := hC
  show GX (nG Γ ad2) LK19 _ _ [some (.ref (ad2 8))] [.ref (ad2 10), .ref (ad2 8)] μZ _
  refine GX_putR (a := 8) (b := 10) (L := LK19) hC fkX2_29 (inInit_nG hin) (show vwCl[2]? = some (RX2, TX2, 10) from rfl) rfl rfl (tyX2_ok 5 (by decide)) (fun _ => rfl) (fun _ => rfl) (show LK19[8]? = some (.inl (2, [none, none, none, none, some (some 9), some none, some none, some none, some none, some none])) by decide +kernel) (by decide) dX2_init_37 (fun hC => ?_)
  replace hC : CX (nG Γ ad2) cX2_init RX2 LK20 1 1 := hC
  show GX (nG Γ ad2) LK20 _ _ [some (.ref (ad2 8))] [] μZ _
  refine GX_aload_n hC dX2_init_40 rfl ?_
  refine GX_bipush hC 36 dX2_init_41 rfl ?_
  refine GX_newI hC 36 (alOK_nG hal) ac_int (by decide) rfl (by decide) (by decide +kernel) (kX_nG (hkk _ _ (by decide) (by decide))) dX2_init_43 (fun ad => [some (.ref (ad 8))]) (fun ad => [.ref (ad 8)]) rfl rfl (fun a b h => ⟨by first | rfl | simp only [h 8 (by decide +kernel)], by first | rfl | simp only [h 8 (by decide +kernel)]⟩) (fun ad3 e3 hC => ?_)
  rw [nG_nG] at hC ⊢
  have E3 : ∀ i, i < 9 → ad3 i = gad Γ i := fun i hi => (e3 i (Nat.lt_of_lt_of_le hi (by decide +kernel))).trans (E2 i hi)
  replace hC : CX (nG Γ ad3) cX2_init RX2 LK21 1 1 := hC
  show GX (nG Γ ad3) LK21 _ _ [some (.ref (ad3 8))] [.ref (ad3 11), .ref (ad3 8)] μZ _
  refine GX_putR (a := 8) (b := 11) (L := LK21) hC fkX2_32 (inInit_nG hin) (show vwCl[2]? = some (RX2, TX2, 10) from rfl) rfl rfl (tyX2_ok 6 (by decide)) (fun _ => rfl) (fun _ => rfl) (show LK21[8]? = some (.inl (2, [none, none, none, none, some (some 9), some (some 10), some none, some none, some none, some none])) by decide +kernel) (by decide) dX2_init_45 (fun hC => ?_)
  replace hC : CX (nG Γ ad3) cX2_init RX2 LK22 1 1 := hC
  show GX (nG Γ ad3) LK22 _ _ [some (.ref (ad3 8))] [] μZ _
  refine GX_aload_n hC dX2_init_48 rfl ?_
  refine GX_iconst hC 3 dX2_init_49 rfl ?_
  refine GX_newI hC 3 (alOK_nG hal) ac_int (by decide) rfl (by decide) (by decide +kernel) (kX_nG (hkk _ _ (by decide) (by decide))) dX2_init_50 (fun ad => [some (.ref (ad 8))]) (fun ad => [.ref (ad 8)]) rfl rfl (fun a b h => ⟨by first | rfl | simp only [h 8 (by decide +kernel)], by first | rfl | simp only [h 8 (by decide +kernel)]⟩) (fun ad4 e4 hC => ?_)
  rw [nG_nG] at hC ⊢
  have E4 : ∀ i, i < 9 → ad4 i = gad Γ i := fun i hi => (e4 i (Nat.lt_of_lt_of_le hi (by decide +kernel))).trans (E3 i hi)
  replace hC : CX (nG Γ ad4) cX2_init RX2 LK23 1 1 := hC
  show GX (nG Γ ad4) LK23 _ _ [some (.ref (ad4 8))] [.ref (ad4 12), .ref (ad4 8)] μZ _
  refine GX_putR (a := 8) (b := 12) (L := LK23) hC fkX2_35 (inInit_nG hin) (show vwCl[2]? = some (RX2, TX2, 10) from rfl) rfl rfl (tyX2_ok 7 (by decide)) (fun _ => rfl) (fun _ => rfl) (show LK23[8]? = some (.inl (2, [none, none, none, none, some (some 9), some (some 10), some (some 11), some none, some none, some none])) by decide +kernel) (by decide) dX2_init_52 (fun hC => ?_)
  replace hC : CX (nG Γ ad4) cX2_init RX2 LK24 1 1 := hC
  show GX (nG Γ ad4) LK24 _ _ [some (.ref (ad4 8))] [] μZ _
  refine GX_aload_n hC dX2_init_55 rfl ?_
  refine GX_iconst hC 3 dX2_init_56 rfl ?_
  refine GX_newI hC 3 (alOK_nG hal) ac_int (by decide) rfl (by decide) (by decide +kernel) (kX_nG (hkk _ _ (by decide) (by decide))) dX2_init_57 (fun ad => [some (.ref (ad 8))]) (fun ad => [.ref (ad 8)]) rfl rfl (fun a b h => ⟨by first | rfl | simp only [h 8 (by decide +kernel)], by first | rfl | simp only [h 8 (by decide +kernel)]⟩) (fun ad5 e5 hC => ?_)
  rw [nG_nG] at hC ⊢
  have E5 : ∀ i, i < 9 → ad5 i = gad Γ i := fun i hi => (e5 i (Nat.lt_of_lt_of_le hi (by decide +kernel))).trans (E4 i hi)
  replace hC : CX (nG Γ ad5) cX2_init RX2 LK25 1 1 := hC
  show GX (nG Γ ad5) LK25 _ _ [some (.ref (ad5 8))] [.ref (ad5 13), .ref (ad5 8)] μZ _
  refine GX_putR (a := 8) (b := 13) (L := LK25) hC fkX2_38 (inInit_nG hin) (show vwCl[2]? = some (RX2, TX2, 10) from rfl) rfl rfl (tyX2_ok 8 (by decide)) (fun _ => rfl) (fun _ => rfl) (show LK25[8]? = some (.inl (2, [none, none, none, none, some (some 9), some (some 10), some (some 11), some (some 12), some none, some none])) by decide +kernel) (by decide) dX2_init_59 (fun hC => ?_)
  replace hC : CX (nG Γ ad5) cX2_init RX2 LK26 1 1 := hC
  show GX (nG Γ ad5) LK26 _ _ [some (.ref (ad5 8))] [] μZ _
  refine GX_aload_n hC dX2_init_62 rfl ?_
  refine GX_bipush hC 18 dX2_init_63 rfl ?_
  refine GX_newI hC 18 (alOK_nG hal) ac_int (by decide) rfl (by decide) (by decide +kernel) (kX_nG (hkk _ _ (by decide) (by decide))) dX2_init_65 (fun ad => [some (.ref (ad 8))]) (fun ad => [.ref (ad 8)]) rfl rfl (fun a b h => ⟨by first | rfl | simp only [h 8 (by decide +kernel)], by first | rfl | simp only [h 8 (by decide +kernel)]⟩) (fun ad6 e6 hC => ?_)
  rw [nG_nG] at hC ⊢
  have E6 : ∀ i, i < 9 → ad6 i = gad Γ i := fun i hi => (e6 i (Nat.lt_of_lt_of_le hi (by decide +kernel))).trans (E5 i hi)
  replace hC : CX (nG Γ ad6) cX2_init RX2 LK27 1 1 := hC
  show GX (nG Γ ad6) LK27 _ _ [some (.ref (ad6 8))] [.ref (ad6 14), .ref (ad6 8)] μZ _
  refine GX_putR (a := 8) (b := 14) (L := LK27) hC fkX2_41 (inInit_nG hin) (show vwCl[2]? = some (RX2, TX2, 10) from rfl) rfl rfl (tyX2_ok 9 (by decide)) (fun _ => rfl) (fun _ => rfl) (show LK27[8]? = some (.inl (2, [none, none, none, none, some (some 9), some (some 10), some (some 11), some (some 12), some (some 13), some none])) by decide +kernel) (by decide) dX2_init_67 (fun hC => ?_)
  replace hC : CX (nG Γ ad6) cX2_init RX2 LK28 1 1 := hC
  show GX (nG Γ ad6) LK28 _ _ [some (.ref (ad6 8))] [] μZ _
  exact GX_vretI hC (RXI_nG hR) E6 dX2_init_70
set_option maxRecDepth 100000 in
set_option maxHeartbeats 4000000 in
theorem K_Land_15 {l : Launch} : CnI l yX2_init cX2_init 1 1 6 72 LK30 LK42 15 := by
  refine CnI.of (by decide +kernel) rfl (by decide) (fun Γ hl hC hR hkk hal hin hao => ?_)
  subst hl
  have E0 : ∀ i, i < 16 → gad Γ i = gad Γ i := fun _ _ => rfl
  replace hR : RXI Γ 16 6 72 (gad Γ) LK42 := hR
  replace hC : CX Γ cX2_init RX2 LK30 1 1 := hC
  show GX Γ LK30 _ _ [some (.ref (gad Γ 15))] [] μZ _
  refine GX_aload_n hC dX2_init_0 rfl ?_
  refine GX_oinit hC oiX2_3 (by decide) (Nat.le_of_ble_eq_true rfl) dX2_init_1 ?_
  refine GX_aload_n hC dX2_init_4 rfl ?_
  refine GX_iconst hC 0 dX2_init_5 rfl ?_
  refine GX_putI (a := 15) (L := LK30) (μ := μZ) (x := 0) hC fkX2_9 ftX2_0 (show LK30[15]? = some (.inl (2, [none, none, none, none, some none, some none, some none, some none, some none, some none])) by decide +kernel) rfl dX2_init_6 ?_
  rw [show ∀ z w : Nat, si μZ z w 0 = μZ from si_Z]
  refine GX_aload_n hC dX2_init_9 rfl ?_
  refine GX_iconst hC 0 dX2_init_10 rfl ?_
  refine GX_putI (a := 15) (L := LK30) (μ := μZ) (x := 0) hC fkX2_15 ftX2_1 (show LK30[15]? = some (.inl (2, [none, none, none, none, some none, some none, some none, some none, some none, some none])) by decide +kernel) rfl dX2_init_11 ?_
  rw [show ∀ z w : Nat, si μZ z w 0 = μZ from si_Z]
  refine GX_aload_n hC dX2_init_14 rfl ?_
  refine GX_iconst hC 0 dX2_init_15 rfl ?_
  refine GX_putZ (a := 15) (L := LK30) (μ := μZ) (b := false) hC fkX2_18 ftX2_2 (show LK30[15]? = some (.inl (2, [none, none, none, none, some none, some none, some none, some none, some none, some none])) by decide +kernel) rfl dX2_init_16 ?_
  rw [show ∀ z w : Nat, si μZ z w (bI false) = μZ from si_Z]
  refine GX_aload_n hC dX2_init_19 rfl ?_
  refine GX_iconst hC 0 dX2_init_20 rfl ?_
  refine GX_putZ (a := 15) (L := LK30) (μ := μZ) (b := false) hC fkX2_22 ftX2_3 (show LK30[15]? = some (.inl (2, [none, none, none, none, some none, some none, some none, some none, some none, some none])) by decide +kernel) rfl dX2_init_21 ?_
  rw [show ∀ z w : Nat, si μZ z w (bI false) = μZ from si_Z]
  refine GX_aload_n hC dX2_init_24 rfl ?_
  refine GX_bipush hC 6 dX2_init_25 rfl ?_
  refine GX_newI hC 6 hal ac_int (by decide) rfl (by decide) (by decide +kernel) (hkk _ _ (by decide) (by decide)) dX2_init_27 (fun ad => [some (.ref (ad 15))]) (fun ad => [.ref (ad 15)]) rfl rfl (fun a b h => ⟨by first | rfl | simp only [h 15 (by decide +kernel)], by first | rfl | simp only [h 15 (by decide +kernel)]⟩) (fun ad1 e1 hC => ?_)
  have E1 : ∀ i, i < 16 → ad1 i = gad Γ i := fun i hi => (e1 i (Nat.lt_of_lt_of_le hi (by decide +kernel))).trans (E0 i hi)
  replace hC : CX (nG Γ ad1) cX2_init RX2 LK31 1 1 := hC
  show GX (nG Γ ad1) LK31 _ _ [some (.ref (ad1 15))] [.ref (ad1 16), .ref (ad1 15)] μZ _
  refine GX_putR (a := 15) (b := 16) (L := LK31) hC fkX2_25 (inInit_nG hin) (show vwCl[2]? = some (RX2, TX2, 10) from rfl) rfl rfl (tyX2_ok 4 (by decide)) (fun _ => rfl) (fun _ => rfl) (show LK31[15]? = some (.inl (2, [none, none, none, none, some none, some none, some none, some none, some none, some none])) by decide +kernel) (by decide) dX2_init_29 (fun hC => ?_)
  replace hC : CX (nG Γ ad1) cX2_init RX2 LK32 1 1 := hC
  show GX (nG Γ ad1) LK32 _ _ [some (.ref (ad1 15))] [] μZ _
  refine GX_aload_n hC dX2_init_32 rfl ?_
  refine GX_bipush hC 6 dX2_init_33 rfl ?_
  refine GX_newI hC 6 (alOK_nG hal) ac_int (by decide) rfl (by decide) (by decide +kernel) (kX_nG (hkk _ _ (by decide) (by decide))) dX2_init_35 (fun ad => [some (.ref (ad 15))]) (fun ad => [.ref (ad 15)]) rfl rfl (fun a b h => ⟨by first | rfl | simp only [h 15 (by decide +kernel)], by first | rfl | simp only [h 15 (by decide +kernel)]⟩) (fun ad2 e2 hC => ?_)
  rw [nG_nG] at hC ⊢
  have E2 : ∀ i, i < 16 → ad2 i = gad Γ i := fun i hi => (e2 i (Nat.lt_of_lt_of_le hi (by decide +kernel))).trans (E1 i hi)
  replace hC : CX (nG Γ ad2) cX2_init RX2 LK33 1 1 := hC
  show GX (nG Γ ad2) LK33 _ _ [some (.ref (ad2 15))] [.ref (ad2 17), .ref (ad2 15)] μZ _
  refine GX_putR (a := 15) (b := 17) (L := LK33) hC fkX2_29 (inInit_nG hin) (show vwCl[2]? = some (RX2, TX2, 10) from rfl) rfl rfl (tyX2_ok 5 (by decide)) (fun _ => rfl) (fun _ => rfl) (show LK33[15]? = some (.inl (2, [none, none, none, none, some (some 16), some none, some none, some none, some none, some none])) by decide +kernel) (by decide) dX2_init_37 (fun hC => ?_)
  replace hC : CX (nG Γ ad2) cX2_init RX2 LK34 1 1 := hC
  show GX (nG Γ ad2) LK34 _ _ [some (.ref (ad2 15))] [] μZ _
  refine GX_aload_n hC dX2_init_40 rfl ?_
  refine GX_bipush hC 36 dX2_init_41 rfl ?_
  refine GX_newI hC 36 (alOK_nG hal) ac_int (by decide) rfl (by decide) (by decide +kernel) (kX_nG (hkk _ _ (by decide) (by decide))) dX2_init_43 (fun ad => [some (.ref (ad 15))]) (fun ad => [.ref (ad 15)]) rfl rfl (fun a b h => ⟨by first | rfl | simp only [h 15 (by decide +kernel)], by first | rfl | simp only [h 15 (by decide +kernel)]⟩) (fun ad3 e3 hC => ?_)
  rw [nG_nG] at hC ⊢
  have E3 : ∀ i, i < 16 → ad3 i = gad Γ i := fun i hi => (e3 i (Nat.lt_of_lt_of_le hi (by decide +kernel))).trans (E2 i hi)
  replace hC : CX (nG Γ ad3) cX2_init RX2 LK35 1 1 := hC
  show GX (nG Γ ad3) LK35 _ _ [some (.ref (ad3 15))] [.ref (ad3 18), .ref (ad3 15)] μZ _
  refine GX_putR (a := 15) (b := 18) (L := LK35) hC fkX2_32 (inInit_nG hin) (show vwCl[2]? = some (RX2, TX2, 10) from rfl) rfl rfl (tyX2_ok 6 (by decide)) (fun _ => rfl) (fun _ => rfl) (show LK35[15]? = some (.inl (2, [none, none, none, none, some (some 16), some (some 17), some none, some none, some none, some none])) by decide +kernel) (by decide) dX2_init_45 (fun hC => ?_)
  replace hC : CX (nG Γ ad3) cX2_init RX2 LK36 1 1 := hC
  show GX (nG Γ ad3) LK36 _ _ [some (.ref (ad3 15))] [] μZ _
  refine GX_aload_n hC dX2_init_48 rfl ?_
  refine GX_iconst hC 3 dX2_init_49 rfl ?_
  refine GX_newI hC 3 (alOK_nG hal) ac_int (by decide) rfl (by decide) (by decide +kernel) (kX_nG (hkk _ _ (by decide) (by decide))) dX2_init_50 (fun ad => [some (.ref (ad 15))]) (fun ad => [.ref (ad 15)]) rfl rfl (fun a b h => ⟨by first | rfl | simp only [h 15 (by decide +kernel)], by first | rfl | simp only [h 15 (by decide +kernel)]⟩) (fun ad4 e4 hC => ?_)
  rw [nG_nG] at hC ⊢
  have E4 : ∀ i, i < 16 → ad4 i = gad Γ i := fun i hi => (e4 i (Nat.lt_of_lt_of_le hi (by decide +kernel))).trans (E3 i hi)
  replace hC : CX (nG Γ ad4) cX2_init RX2 LK37 1 1 := hC
  show GX (nG Γ ad4) LK37 _ _ [some (.ref (ad4 15))] [.ref (ad4 19), .ref (ad4 15)] μZ _
  refine GX_putR (a := 15) (b := 19) (L := LK37) hC fkX2_35 (inInit_nG hin) (show vwCl[2]? = some (RX2, TX2, 10) from rfl) rfl rfl (tyX2_ok 7 (by decide)) (fun _ => rfl) (fun _ => rfl) (show LK37[15]? = some (.inl (2, [none, none, none, none, some (some 16), some (some 17), some (some 18), some none, some none, some none])) by decide +kernel) (by decide) dX2_init_52 (fun hC => ?_)
  replace hC : CX (nG Γ ad4) cX2_init RX2 LK38 1 1 := hC
  show GX (nG Γ ad4) LK38 _ _ [some (.ref (ad4 15))] [] μZ _
  refine GX_aload_n hC dX2_init_55 rfl ?_
  refine GX_iconst hC 3 dX2_init_56 rfl ?_
  refine GX_newI hC 3 (alOK_nG hal) ac_int (by decide) rfl (by decide) (by decide +kernel) (kX_nG (hkk _ _ (by decide) (by decide))) dX2_init_57 (fun ad => [some (.ref (ad 15))]) (fun ad => [.ref (ad 15)]) rfl rfl (fun a b h => ⟨by first | rfl | simp only [h 15 (by decide +kernel)], by first | rfl | simp only [h 15 (by decide +kernel)]⟩) (fun ad5 e5 hC => ?_)
  rw [nG_nG] at hC ⊢
  have E5 : ∀ i, i < 16 → ad5 i = gad Γ i := fun i hi => (e5 i (Nat.lt_of_lt_of_le hi (by decide +kernel))).trans (E4 i hi)
  replace hC : CX (nG Γ ad5) cX2_init RX2 LK39 1 1 := hC
  show GX (nG Γ ad5) LK39 _ _ [some (.ref (ad5 15))] [.ref (ad5 20), .ref (ad5 15)] μZ _
  refine GX_putR (a := 15) (b := 20) (L := LK39) hC fkX2_38 (inInit_nG hin) (show vwCl[2]? = some (RX2, TX2, 10) from rfl) rfl rfl (tyX2_ok 8 (by decide)) (fun _ => rfl) (fun _ => rfl) (show LK39[15]? = some (.inl (2, [none, none, none, none, some (some 16), some (some 17), some (some 18), some (some 19), some none, some none])) by decide +kernel) (by decide) dX2_init_59 (fun hC => ?_)
  replace hC : CX (nG Γ ad5) cX2_init RX2 LK40 1 1 := hC
  show GX (nG Γ ad5) LK40 _ _ [some (.ref (ad5 15))] [] μZ _
  refine GX_aload_n hC dX2_init_62 rfl ?_
  refine GX_bipush hC 18 dX2_init_63 rfl ?_
  refine GX_newI hC 18 (alOK_nG hal) ac_int (by decide) rfl (by decide) (by decide +kernel) (kX_nG (hkk _ _ (by decide) (by decide))) dX2_init_65 (fun ad => [some (.ref (ad 15))]) (fun ad => [.ref (ad 15)]) rfl rfl (fun a b h => ⟨by first | rfl | simp only [h 15 (by decide +kernel)], by first | rfl | simp only [h 15 (by decide +kernel)]⟩) (fun ad6 e6 hC => ?_)
  rw [nG_nG] at hC ⊢
  have E6 : ∀ i, i < 16 → ad6 i = gad Γ i := fun i hi => (e6 i (Nat.lt_of_lt_of_le hi (by decide +kernel))).trans (E5 i hi)
  replace hC : CX (nG Γ ad6) cX2_init RX2 LK41 1 1 := hC
  show GX (nG Γ ad6) LK41 _ _ [some (.ref (ad6 15))] [.ref (ad6 21), .ref (ad6 15)] μZ _
  refine GX_putR (a := 15) (b := 21) (L := LK41) hC fkX2_41 (inInit_nG hin) (show vwCl[2]? = some (RX2, TX2, 10) from rfl) rfl rfl (tyX2_ok 9 (by decide)) (fun _ => rfl) (fun _ => rfl) (show LK41[15]? = some (.inl (2, [none, none, none, none, some (some 16), some (some 17), some (some 18), some (some 19), some (some 20), some none])) by decide +kernel) (by decide) dX2_init_67 (fun hC => ?_)
  replace hC : CX (nG Γ ad6) cX2_init RX2 LK42 1 1 := hC
  show GX (nG Γ ad6) LK42 _ _ [some (.ref (ad6 15))] [] μZ _
  exact GX_vretI hC (RXI_nG hR) E6 dX2_init_70
set_option maxRecDepth 100000 in
set_option maxHeartbeats 4000000 in
theorem K_LandReader_23 {l : Launch} : CnI l yX3_init cX3_init 1 1 0 0 LK46 LK46 23 := by
  refine CnI.of (by decide +kernel) rfl (by decide) (fun Γ hl hC hR hkk hal hin hao => ?_)
  subst hl
  have E0 : ∀ i, i < 24 → gad Γ i = gad Γ i := fun _ _ => rfl
  replace hR : RXI Γ 24 0 0 (gad Γ) LK46 := hR
  replace hC : CX Γ cX3_init RX3 LK46 1 1 := hC
  show GX Γ LK46 _ _ [some (.ref (gad Γ 23))] [] μZ _
  refine GX_aload_n hC dX3_init_0 rfl ?_
  refine GX_oinit hC oiX3_3 (by decide) (Nat.le_of_ble_eq_true rfl) dX3_init_1 ?_
  refine GX_aload_n hC dX3_init_4 rfl ?_
  refine GX_iconst hC 0 dX3_init_5 rfl ?_
  refine GX_putI (a := 23) (L := LK46) (μ := μZ) (x := 0) hC fkX3_9 ftX3_0 (show LK46[23]? = some (.inl (3, [none, none, none, none, none, none])) by decide +kernel) rfl dX3_init_6 ?_
  rw [show ∀ z w : Nat, si μZ z w 0 = μZ from si_Z]
  refine GX_aload_n hC dX3_init_9 rfl ?_
  refine GX_iconst hC 0 dX3_init_10 rfl ?_
  refine GX_putI (a := 23) (L := LK46) (μ := μZ) (x := 0) hC fkX3_15 ftX3_1 (show LK46[23]? = some (.inl (3, [none, none, none, none, none, none])) by decide +kernel) rfl dX3_init_11 ?_
  rw [show ∀ z w : Nat, si μZ z w 0 = μZ from si_Z]
  refine GX_aload_n hC dX3_init_14 rfl ?_
  refine GX_iconst hC 0 dX3_init_15 rfl ?_
  refine GX_putI (a := 23) (L := LK46) (μ := μZ) (x := 0) hC fkX3_18 ftX3_2 (show LK46[23]? = some (.inl (3, [none, none, none, none, none, none])) by decide +kernel) rfl dX3_init_16 ?_
  rw [show ∀ z w : Nat, si μZ z w 0 = μZ from si_Z]
  refine GX_aload_n hC dX3_init_19 rfl ?_
  refine GX_iconst hC 0 dX3_init_20 rfl ?_
  refine GX_putI (a := 23) (L := LK46) (μ := μZ) (x := 0) hC fkX3_21 ftX3_3 (show LK46[23]? = some (.inl (3, [none, none, none, none, none, none])) by decide +kernel) rfl dX3_init_21 ?_
  rw [show ∀ z w : Nat, si μZ z w 0 = μZ from si_Z]
  refine GX_aload_n hC dX3_init_24 rfl ?_
  refine GX_iconst hC 0 dX3_init_25 rfl ?_
  refine GX_putI (a := 23) (L := LK46) (μ := μZ) (x := 0) hC fkX3_24 ftX3_4 (show LK46[23]? = some (.inl (3, [none, none, none, none, none, none])) by decide +kernel) rfl dX3_init_26 ?_
  rw [show ∀ z w : Nat, si μZ z w 0 = μZ from si_Z]
  refine GX_aload_n hC dX3_init_29 rfl ?_
  refine GX_iconst hC 0 dX3_init_30 rfl ?_
  refine GX_putZ (a := 23) (L := LK46) (μ := μZ) (b := false) hC fkX3_27 ftX3_5 (show LK46[23]? = some (.inl (3, [none, none, none, none, none, none])) by decide +kernel) rfl dX3_init_31 ?_
  rw [show ∀ z w : Nat, si μZ z w (bI false) = μZ from si_Z]
  exact GX_vretI hC hR E0 dX3_init_34
set_option maxRecDepth 100000 in
set_option maxHeartbeats 4000000 in
theorem K_Sharing_24 {l : Launch} : CnI l yX7_init cX7_init 1 1 3 19 LK48 LK54 24 := by
  refine CnI.of (by decide +kernel) rfl (by decide) (fun Γ hl hC hR hkk hal hin hao => ?_)
  subst hl
  have E0 : ∀ i, i < 25 → gad Γ i = gad Γ i := fun _ _ => rfl
  replace hR : RXI Γ 25 3 19 (gad Γ) LK54 := hR
  replace hC : CX Γ cX7_init RX7 LK48 1 1 := hC
  show GX Γ LK48 _ _ [some (.ref (gad Γ 24))] [] μZ _
  refine GX_aload_n hC dX7_init_0 rfl ?_
  refine GX_oinit hC oiX7_3 (by decide) (Nat.le_of_ble_eq_true rfl) dX7_init_1 ?_
  refine GX_aload_n hC dX7_init_4 rfl ?_
  refine GX_iconst hC 0 dX7_init_5 rfl ?_
  refine GX_putI (a := 24) (L := LK48) (μ := μZ) (x := 0) hC fkX7_9 ftX7_0 (show LK48[24]? = some (.inl (7, [none, none, some none, some none, some none])) by decide +kernel) rfl dX7_init_6 ?_
  rw [show ∀ z w : Nat, si μZ z w 0 = μZ from si_Z]
  refine GX_aload_n hC dX7_init_9 rfl ?_
  refine GX_iconst hC 0 dX7_init_10 rfl ?_
  refine GX_putZ (a := 24) (L := LK48) (μ := μZ) (b := false) hC fkX7_15 ftX7_1 (show LK48[24]? = some (.inl (7, [none, none, some none, some none, some none])) by decide +kernel) rfl dX7_init_11 ?_
  rw [show ∀ z w : Nat, si μZ z w (bI false) = μZ from si_Z]
  refine GX_aload_n hC dX7_init_14 rfl ?_
  refine GX_bipush hC 6 dX7_init_15 rfl ?_
  refine GX_newI hC 6 hal ac_int (by decide) rfl (by decide) (by decide +kernel) (hkk _ _ (by decide) (by decide)) dX7_init_17 (fun ad => [some (.ref (ad 24))]) (fun ad => [.ref (ad 24)]) rfl rfl (fun a b h => ⟨by first | rfl | simp only [h 24 (by decide +kernel)], by first | rfl | simp only [h 24 (by decide +kernel)]⟩) (fun ad1 e1 hC => ?_)
  have E1 : ∀ i, i < 25 → ad1 i = gad Γ i := fun i hi => (e1 i (Nat.lt_of_lt_of_le hi (by decide +kernel))).trans (E0 i hi)
  replace hC : CX (nG Γ ad1) cX7_init RX7 LK49 1 1 := hC
  show GX (nG Γ ad1) LK49 _ _ [some (.ref (ad1 24))] [.ref (ad1 25), .ref (ad1 24)] μZ _
  refine GX_putR (a := 24) (b := 25) (L := LK49) hC fkX7_19 (inInit_nG hin) (show vwCl[7]? = some (RX7, TX7, 5) from rfl) rfl rfl (tyX7_ok 2 (by decide)) (fun _ => rfl) (fun _ => rfl) (show LK49[24]? = some (.inl (7, [none, none, some none, some none, some none])) by decide +kernel) (by decide) dX7_init_19 (fun hC => ?_)
  replace hC : CX (nG Γ ad1) cX7_init RX7 LK50 1 1 := hC
  show GX (nG Γ ad1) LK50 _ _ [some (.ref (ad1 24))] [] μZ _
  refine GX_aload_n hC dX7_init_22 rfl ?_
  refine GX_bipush hC 6 dX7_init_23 rfl ?_
  refine GX_newI hC 6 (alOK_nG hal) ac_int (by decide) rfl (by decide) (by decide +kernel) (kX_nG (hkk _ _ (by decide) (by decide))) dX7_init_25 (fun ad => [some (.ref (ad 24))]) (fun ad => [.ref (ad 24)]) rfl rfl (fun a b h => ⟨by first | rfl | simp only [h 24 (by decide +kernel)], by first | rfl | simp only [h 24 (by decide +kernel)]⟩) (fun ad2 e2 hC => ?_)
  rw [nG_nG] at hC ⊢
  have E2 : ∀ i, i < 25 → ad2 i = gad Γ i := fun i hi => (e2 i (Nat.lt_of_lt_of_le hi (by decide +kernel))).trans (E1 i hi)
  replace hC : CX (nG Γ ad2) cX7_init RX7 LK51 1 1 := hC
  show GX (nG Γ ad2) LK51 _ _ [some (.ref (ad2 24))] [.ref (ad2 26), .ref (ad2 24)] μZ _
  refine GX_putR (a := 24) (b := 26) (L := LK51) hC fkX7_23 (inInit_nG hin) (show vwCl[7]? = some (RX7, TX7, 5) from rfl) rfl rfl (tyX7_ok 3 (by decide)) (fun _ => rfl) (fun _ => rfl) (show LK51[24]? = some (.inl (7, [none, none, some (some 25), some none, some none])) by decide +kernel) (by decide) dX7_init_27 (fun hC => ?_)
  replace hC : CX (nG Γ ad2) cX7_init RX7 LK52 1 1 := hC
  show GX (nG Γ ad2) LK52 _ _ [some (.ref (ad2 24))] [] μZ _
  refine GX_aload_n hC dX7_init_30 rfl ?_
  refine GX_bipush hC 7 dX7_init_31 rfl ?_
  refine GX_newI hC 7 (alOK_nG hal) ac_int (by decide) rfl (by decide) (by decide +kernel) (kX_nG (hkk _ _ (by decide) (by decide))) dX7_init_33 (fun ad => [some (.ref (ad 24))]) (fun ad => [.ref (ad 24)]) rfl rfl (fun a b h => ⟨by first | rfl | simp only [h 24 (by decide +kernel)], by first | rfl | simp only [h 24 (by decide +kernel)]⟩) (fun ad3 e3 hC => ?_)
  rw [nG_nG] at hC ⊢
  have E3 : ∀ i, i < 25 → ad3 i = gad Γ i := fun i hi => (e3 i (Nat.lt_of_lt_of_le hi (by decide +kernel))).trans (E2 i hi)
  replace hC : CX (nG Γ ad3) cX7_init RX7 LK53 1 1 := hC
  show GX (nG Γ ad3) LK53 _ _ [some (.ref (ad3 24))] [.ref (ad3 27), .ref (ad3 24)] μZ _
  refine GX_putR (a := 24) (b := 27) (L := LK53) hC fkX7_26 (inInit_nG hin) (show vwCl[7]? = some (RX7, TX7, 5) from rfl) rfl rfl (tyX7_ok 4 (by decide)) (fun _ => rfl) (fun _ => rfl) (show LK53[24]? = some (.inl (7, [none, none, some (some 25), some (some 26), some none])) by decide +kernel) (by decide) dX7_init_35 (fun hC => ?_)
  replace hC : CX (nG Γ ad3) cX7_init RX7 LK54 1 1 := hC
  show GX (nG Γ ad3) LK54 _ _ [some (.ref (ad3 24))] [] μZ _
  exact GX_vretI hC (RXI_nG hR) E3 dX7_init_38
set_option maxRecDepth 100000 in
set_option maxHeartbeats 4000000 in
theorem K_Numbering_28 {l : Launch} : CnI l yX5_init cX5_init 1 1 1 6 LK56 LK58 28 := by
  refine CnI.of (by decide +kernel) rfl (by decide) (fun Γ hl hC hR hkk hal hin hao => ?_)
  subst hl
  have E0 : ∀ i, i < 29 → gad Γ i = gad Γ i := fun _ _ => rfl
  replace hR : RXI Γ 29 1 6 (gad Γ) LK58 := hR
  replace hC : CX Γ cX5_init RX5 LK56 1 1 := hC
  show GX Γ LK56 _ _ [some (.ref (gad Γ 28))] [] μZ _
  refine GX_aload_n hC dX5_init_0 rfl ?_
  refine GX_oinit hC oiX5_3 (by decide) (Nat.le_of_ble_eq_true rfl) dX5_init_1 ?_
  refine GX_aload_n hC dX5_init_4 rfl ?_
  refine GX_bipush hC 6 dX5_init_5 rfl ?_
  refine GX_newI hC 6 hal ac_int (by decide) rfl (by decide) (by decide +kernel) (hkk _ _ (by decide) (by decide)) dX5_init_7 (fun ad => [some (.ref (ad 28))]) (fun ad => [.ref (ad 28)]) rfl rfl (fun a b h => ⟨by first | rfl | simp only [h 28 (by decide +kernel)], by first | rfl | simp only [h 28 (by decide +kernel)]⟩) (fun ad1 e1 hC => ?_)
  have E1 : ∀ i, i < 29 → ad1 i = gad Γ i := fun i hi => (e1 i (Nat.lt_of_lt_of_le hi (by decide +kernel))).trans (E0 i hi)
  replace hC : CX (nG Γ ad1) cX5_init RX5 LK57 1 1 := hC
  show GX (nG Γ ad1) LK57 _ _ [some (.ref (ad1 28))] [.ref (ad1 29), .ref (ad1 28)] μZ _
  refine GX_putR (a := 28) (b := 29) (L := LK57) hC fkX5_9 (inInit_nG hin) (show vwCl[5]? = some (RX5, TX5, 1) from rfl) rfl rfl (tyX5_ok 0 (by decide)) (fun _ => rfl) (fun _ => rfl) (show LK57[28]? = some (.inl (5, [some none])) by decide +kernel) (by decide) dX5_init_9 (fun hC => ?_)
  replace hC : CX (nG Γ ad1) cX5_init RX5 LK58 1 1 := hC
  show GX (nG Γ ad1) LK58 _ _ [some (.ref (ad1 28))] [] μZ _
  exact GX_vretI hC (RXI_nG hR) E1 dX5_init_12
set_option maxRecDepth 100000 in
set_option maxHeartbeats 4000000 in
theorem K_Changes_30 {l : Launch} : CnI l yX0_init cX0_init 1 1 3 863 LK60 LK66 30 := by
  refine CnI.of (by decide +kernel) rfl (by decide) (fun Γ hl hC hR hkk hal hin hao => ?_)
  subst hl
  have E0 : ∀ i, i < 31 → gad Γ i = gad Γ i := fun _ _ => rfl
  replace hR : RXI Γ 31 3 863 (gad Γ) LK66 := hR
  replace hC : CX Γ cX0_init RX0 LK60 1 1 := hC
  show GX Γ LK60 _ _ [some (.ref (gad Γ 30))] [] μZ _
  refine GX_aload_n hC dX0_init_0 rfl ?_
  refine GX_oinit hC oiX0_3 (by decide) (Nat.le_of_ble_eq_true rfl) dX0_init_1 ?_
  refine GX_aload_n hC dX0_init_4 rfl ?_
  refine GX_sipush hC 128 dX0_init_5 rfl ?_
  refine GX_newI hC 128 hal ac_int (by decide) rfl (by decide) (by decide +kernel) (hkk _ _ (by decide) (by decide)) dX0_init_8 (fun ad => [some (.ref (ad 30))]) (fun ad => [.ref (ad 30)]) rfl rfl (fun a b h => ⟨by first | rfl | simp only [h 30 (by decide +kernel)], by first | rfl | simp only [h 30 (by decide +kernel)]⟩) (fun ad1 e1 hC => ?_)
  have E1 : ∀ i, i < 31 → ad1 i = gad Γ i := fun i hi => (e1 i (Nat.lt_of_lt_of_le hi (by decide +kernel))).trans (E0 i hi)
  replace hC : CX (nG Γ ad1) cX0_init RX0 LK61 1 1 := hC
  show GX (nG Γ ad1) LK61 _ _ [some (.ref (ad1 30))] [.ref (ad1 31), .ref (ad1 30)] μZ _
  refine GX_putR (a := 30) (b := 31) (L := LK61) hC fkX0_11 (inInit_nG hin) (show vwCl[0]? = some (RX0, TX0, 4) from rfl) rfl rfl (tyX0_ok 0 (by decide)) (fun _ => rfl) (fun _ => rfl) (show LK61[30]? = some (.inl (0, [some none, some none, none, some none])) by decide +kernel) (by decide) dX0_init_10 (fun hC => ?_)
  replace hC : CX (nG Γ ad1) cX0_init RX0 LK62 1 1 := hC
  show GX (nG Γ ad1) LK62 _ _ [some (.ref (ad1 30))] [] μZ _
  refine GX_aload_n hC dX0_init_13 rfl ?_
  refine GX_sipush hC 729 dX0_init_14 rfl ?_
  refine GX_newI hC 729 (alOK_nG hal) ac_int (by decide) rfl (by decide) (by decide +kernel) (kX_nG (hkk _ _ (by decide) (by decide))) dX0_init_17 (fun ad => [some (.ref (ad 30))]) (fun ad => [.ref (ad 30)]) rfl rfl (fun a b h => ⟨by first | rfl | simp only [h 30 (by decide +kernel)], by first | rfl | simp only [h 30 (by decide +kernel)]⟩) (fun ad2 e2 hC => ?_)
  rw [nG_nG] at hC ⊢
  have E2 : ∀ i, i < 31 → ad2 i = gad Γ i := fun i hi => (e2 i (Nat.lt_of_lt_of_le hi (by decide +kernel))).trans (E1 i hi)
  replace hC : CX (nG Γ ad2) cX0_init RX0 LK63 1 1 := hC
  show GX (nG Γ ad2) LK63 _ _ [some (.ref (ad2 30))] [.ref (ad2 32), .ref (ad2 30)] μZ _
  refine GX_putR (a := 30) (b := 32) (L := LK63) hC fkX0_15 (inInit_nG hin) (show vwCl[0]? = some (RX0, TX0, 4) from rfl) rfl rfl (tyX0_ok 1 (by decide)) (fun _ => rfl) (fun _ => rfl) (show LK63[30]? = some (.inl (0, [some (some 31), some none, none, some none])) by decide +kernel) (by decide) dX0_init_19 (fun hC => ?_)
  replace hC : CX (nG Γ ad2) cX0_init RX0 LK64 1 1 := hC
  show GX (nG Γ ad2) LK64 _ _ [some (.ref (ad2 30))] [] μZ _
  refine GX_aload_n hC dX0_init_22 rfl ?_
  refine GX_iconst hC 0 dX0_init_23 rfl ?_
  refine GX_putI (a := 30) (L := LK64) (μ := μZ) (x := 0) hC fkX0_18 ftX0_2 (show LK64[30]? = some (.inl (0, [some (some 31), some (some 32), none, some none])) by decide +kernel) rfl dX0_init_24 ?_
  rw [show ∀ z w : Nat, si μZ z w 0 = μZ from si_Z]
  refine GX_aload_n hC dX0_init_27 rfl ?_
  refine GX_bipush hC 6 dX0_init_28 rfl ?_
  refine GX_newI hC 6 (alOK_nG hal) ac_int (by decide) rfl (by decide) (by decide +kernel) (kX_nG (hkk _ _ (by decide) (by decide))) dX0_init_30 (fun ad => [some (.ref (ad 30))]) (fun ad => [.ref (ad 30)]) rfl rfl (fun a b h => ⟨by first | rfl | simp only [h 30 (by decide +kernel)], by first | rfl | simp only [h 30 (by decide +kernel)]⟩) (fun ad3 e3 hC => ?_)
  rw [nG_nG] at hC ⊢
  have E3 : ∀ i, i < 31 → ad3 i = gad Γ i := fun i hi => (e3 i (Nat.lt_of_lt_of_le hi (by decide +kernel))).trans (E2 i hi)
  replace hC : CX (nG Γ ad3) cX0_init RX0 LK65 1 1 := hC
  show GX (nG Γ ad3) LK65 _ _ [some (.ref (ad3 30))] [.ref (ad3 33), .ref (ad3 30)] μZ _
  refine GX_putR (a := 30) (b := 33) (L := LK65) hC fkX0_22 (inInit_nG hin) (show vwCl[0]? = some (RX0, TX0, 4) from rfl) rfl rfl (tyX0_ok 3 (by decide)) (fun _ => rfl) (fun _ => rfl) (show LK65[30]? = some (.inl (0, [some (some 31), some (some 32), none, some none])) by decide +kernel) (by decide) dX0_init_32 (fun hC => ?_)
  replace hC : CX (nG Γ ad3) cX0_init RX0 LK66 1 1 := hC
  show GX (nG Γ ad3) LK66 _ _ [some (.ref (ad3 30))] [] μZ _
  exact GX_vretI hC (RXI_nG hR) E3 dX0_init_35
set_option maxRecDepth 100000 in
set_option maxHeartbeats 4000000 in
theorem K_Play_34 {l : Launch} : CnI l yX6_init cX6_init 1 1 1 6 LK68 LK70 34 := by
  refine CnI.of (by decide +kernel) rfl (by decide) (fun Γ hl hC hR hkk hal hin hao => ?_)
  subst hl
  have E0 : ∀ i, i < 35 → gad Γ i = gad Γ i := fun _ _ => rfl
  replace hR : RXI Γ 35 1 6 (gad Γ) LK70 := hR
  replace hC : CX Γ cX6_init RX6 LK68 1 1 := hC
  show GX Γ LK68 _ _ [some (.ref (gad Γ 34))] [] μZ _
  refine GX_aload_n hC dX6_init_0 rfl ?_
  refine GX_oinit hC oiX6_3 (by decide) (Nat.le_of_ble_eq_true rfl) dX6_init_1 ?_
  refine GX_aload_n hC dX6_init_4 rfl ?_
  refine GX_bipush hC 6 dX6_init_5 rfl ?_
  refine GX_newI hC 6 hal ac_int (by decide) rfl (by decide) (by decide +kernel) (hkk _ _ (by decide) (by decide)) dX6_init_7 (fun ad => [some (.ref (ad 34))]) (fun ad => [.ref (ad 34)]) rfl rfl (fun a b h => ⟨by first | rfl | simp only [h 34 (by decide +kernel)], by first | rfl | simp only [h 34 (by decide +kernel)]⟩) (fun ad1 e1 hC => ?_)
  have E1 : ∀ i, i < 35 → ad1 i = gad Γ i := fun i hi => (e1 i (Nat.lt_of_lt_of_le hi (by decide +kernel))).trans (E0 i hi)
  replace hC : CX (nG Γ ad1) cX6_init RX6 LK69 1 1 := hC
  show GX (nG Γ ad1) LK69 _ _ [some (.ref (ad1 34))] [.ref (ad1 35), .ref (ad1 34)] μZ _
  refine GX_putR (a := 34) (b := 35) (L := LK69) hC fkX6_9 (inInit_nG hin) (show vwCl[6]? = some (RX6, TX6, 1) from rfl) rfl rfl (tyX6_ok 0 (by decide)) (fun _ => rfl) (fun _ => rfl) (show LK69[34]? = some (.inl (6, [some none])) by decide +kernel) (by decide) dX6_init_9 (fun hC => ?_)
  replace hC : CX (nG Γ ad1) cX6_init RX6 LK70 1 1 := hC
  show GX (nG Γ ad1) LK70 _ _ [some (.ref (ad1 34))] [] μZ _
  exact GX_vretI hC (RXI_nG hR) E1 dX6_init_12
