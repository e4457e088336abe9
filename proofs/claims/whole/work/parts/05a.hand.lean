theorem nI_clamp9 {n : Nat} (h : n < 2 ^ 31) : (nI n).toNatClampNeg = n := nI_clamp h
theorem si_fl (μ : MI) (a i : Nat) (v : Int32) : si (sa μ a (fl (μ.1 a) i v)) a i v = sa μ a (fl (μ.1 a) (i + 1) v) := by
  unfold si sa
  congr 1
  funext b
  by_cases h : b = a
  · subst h
    simp only [if_pos]
    funext j
    simp only [upd, fl]
    by_cases hj : j = i
    · subst hj; simp
    · by_cases h2 : j < i
      · simp [hj, h2, Nat.lt_succ_of_lt h2]
      · have h3 : ¬ j < i + 1 := by omega
        simp [hj, h2, h3]
  · simp [h]
theorem sa_fl0 (μ : MI) (a : Nat) (v : Int32) : sa μ a (fl (μ.1 a) 0 v) = μ := by
  unfold sa
  apply Prod.ext
  · funext b
    by_cases h : b = a
    · subst h; funext j; simp [fl]
    · simp [h]
  · rfl
set_option maxRecDepth 100000 in
set_option maxHeartbeats 4000000 in
theorem C_fill {l : Launch} {a n : Nat} {v : Int32} {μ μ' : MI} (ha : LAY[a]? = some (.inr (0, n, []))) (hn : n < 2 ^ 31) (hf : flA n μ a v = some μ') : Cn l yJ7_fill_53178 cJ7_fill_53178 4 none 0 LAY (fun ad => [.ref (ad a), .int v]) μ (fun _ => none) μ' := by
  refine Cn.of (fun ad => [some (.ref (ad a)), some (.int v), none, none]) (by decide +kernel) (fun _ => rfl) (fun _ => Nat.le_of_ble_eq_true rfl) (fun Γ hl hC hR hk => ?_)
  subst hl
  replace hC : CX Γ cJ7_fill_53178 RJ7 LAY 0 4 := hC
  have hf := oi hf
  have key : ∀ k i : Nat, i + k = n → GX Γ LAY 0 0 [some (.ref (gad Γ a)), some (.int v), some (.int (nI i)), some (.int (nI n))] [] (sa μ a (fl (μ.1 a) i v)) 5 := by
    intro k
    induction k with
    | zero =>
      intro i hi
      have hi : i = n := by omega
      subst hi
      refine GX_iload_n hC dJ7_fill_53178_5 rfl ?_
      refine GX_iload_n hC dJ7_fill_53178_6 rfl ?_
      refine GX_icmp_ge_P hC 20 dJ7_fill_53178_7 (by decide) (fun q => ?_) (fun q => ?_)
      · exact GX_vretW hC hR dJ7_fill_53178_20 hf
      · exact absurd (Int32.le_refl _) q
    | succ k ih =>
      intro i hi
      refine GX_iload_n hC dJ7_fill_53178_5 rfl ?_
      refine GX_iload_n hC dJ7_fill_53178_6 rfl ?_
      refine GX_icmp_ge_N hC 20 dJ7_fill_53178_7 (by decide) (fun q => ?_) (fun q => ?_)
      · refine GX_aload_n hC dJ7_fill_53178_10 rfl ?_
        refine GX_iload_n hC dJ7_fill_53178_11 rfl ?_
        refine GX_iload_n hC dJ7_fill_53178_12 rfl ?_
        have hin : 0 ≤ nI i ∧ (nI i).toNatClampNeg < n := ⟨nI_pos' (by omega), by rw [nI_clamp (by omega)]; omega⟩
        refine GX_iast hC ha hin dJ7_fill_53178_13 ?_
        rw [nI_clamp (by omega : i < 2 ^ 31), si_fl]
        refine GX_iinc hC (nI (i + 1)) [some (.ref (gad Γ a)), some (.int v), some (.int (nI (i + 1))), some (.int (nI n))] dJ7_fill_53178_14 rfl (nI_1 i) (by decide) rfl rfl ?_
        refine GX_goto hC 5 dJ7_fill_53178_17 (by decide) ?_
        exact ih (i + 1) (by omega)
      · exact absurd (nI_lt (by omega) hn) q
  refine GX_iconst hC 0 dJ7_fill_53178_0 rfl ?_
  refine GX_istore_n hC [some (.ref (gad Γ a)), some (.int v), some (.int 0), none] dJ7_fill_53178_1 (by decide) rfl rfl ?_
  refine GX_aload_n hC dJ7_fill_53178_2 rfl ?_
  refine GX_alen hC (nI n) ha (by decide) rfl dJ7_fill_53178_3 ?_
  refine GX_istore_n hC [some (.ref (gad Γ a)), some (.int v), some (.int 0), some (.int (nI n))] dJ7_fill_53178_4 (by decide) rfl rfl ?_
  have h0 := key n 0 (by omega)
  rw [sa_fl0] at h0
  exact h0
theorem kcJ6_265 : Cond.constant RJ6 265 1431655765 ∈ TT := TT_at 756 (by decide +kernel) (by decide +kernel)
theorem kcJ6_266 : Cond.constant RJ6 266 858993459 ∈ TT := TT_at 757 (by decide +kernel) (by decide +kernel)
theorem kcJ6_267 : Cond.constant RJ6 267 252645135 ∈ TT := TT_at 758 (by decide +kernel) (by decide +kernel)
set_option maxRecDepth 100000 in
set_option maxHeartbeats 4000000 in
theorem C_bitCount {l : Launch} (x : Int32) (μ : MI) : Cn l yJ6_bitCount_0f7a4 cJ6_bitCount_0f7a4 1 (some .int) 0 LAY (fun _ => [.int x]) μ (fun _ => some (.int (bc x))) μ := by
  refine Cn.of (fun ad => [some (.int x)]) (by decide +kernel) (fun _ => rfl) (fun _ => Nat.le_of_ble_eq_true rfl) (fun Γ hl hC hR hk => ?_)
  subst hl
  replace hC : CX Γ cJ6_bitCount_0f7a4 RJ6 LAY 0 1 := hC
  refine GX_iload_n hC dJ6_bitCount_0f7a4_0 rfl ?_
  refine GX_iload_n hC dJ6_bitCount_0f7a4_1 rfl ?_
  refine GX_iconst hC 1 dJ6_bitCount_0f7a4_2 rfl ?_
  refine GX_iushr hC dJ6_bitCount_0f7a4_3 ?_
  refine GX_ldcw hC 1431655765 kcJ6_265 dJ6_bitCount_0f7a4_4 ?_
  refine GX_iand hC dJ6_bitCount_0f7a4_7 ?_
  refine GX_isub hC dJ6_bitCount_0f7a4_8 ?_
  refine GX_istore_n hC [some (.int (bc1 x))] dJ6_bitCount_0f7a4_9 (by decide) rfl rfl ?_
  refine GX_iload_n hC dJ6_bitCount_0f7a4_10 rfl ?_
  refine GX_ldcw hC 858993459 kcJ6_266 dJ6_bitCount_0f7a4_11 ?_
  refine GX_iand hC dJ6_bitCount_0f7a4_14 ?_
  refine GX_iload_n hC dJ6_bitCount_0f7a4_15 rfl ?_
  refine GX_iconst hC 2 dJ6_bitCount_0f7a4_16 rfl ?_
  refine GX_iushr hC dJ6_bitCount_0f7a4_17 ?_
  refine GX_ldcw hC 858993459 kcJ6_266 dJ6_bitCount_0f7a4_18 ?_
  refine GX_iand hC dJ6_bitCount_0f7a4_21 ?_
  refine GX_iadd hC dJ6_bitCount_0f7a4_22 ?_
  refine GX_istore_n hC [some (.int (bc2 (bc1 x)))] dJ6_bitCount_0f7a4_23 (by decide) rfl rfl ?_
  refine GX_iload_n hC dJ6_bitCount_0f7a4_24 rfl ?_
  refine GX_iload_n hC dJ6_bitCount_0f7a4_25 rfl ?_
  refine GX_iconst hC 4 dJ6_bitCount_0f7a4_26 rfl ?_
  refine GX_iushr hC dJ6_bitCount_0f7a4_27 ?_
  refine GX_iadd hC dJ6_bitCount_0f7a4_28 ?_
  refine GX_ldcw hC 252645135 kcJ6_267 dJ6_bitCount_0f7a4_29 ?_
  refine GX_iand hC dJ6_bitCount_0f7a4_32 ?_
  refine GX_istore_n hC [some (.int (bc3 (bc2 (bc1 x))))] dJ6_bitCount_0f7a4_33 (by decide) rfl rfl ?_
  refine GX_iload_n hC dJ6_bitCount_0f7a4_34 rfl ?_
  refine GX_iload_n hC dJ6_bitCount_0f7a4_35 rfl ?_
  refine GX_bipush hC 8 dJ6_bitCount_0f7a4_36 rfl ?_
  refine GX_iushr hC dJ6_bitCount_0f7a4_38 ?_
  refine GX_iadd hC dJ6_bitCount_0f7a4_39 ?_
  refine GX_istore_n hC [some (.int (bc4 (bc3 (bc2 (bc1 x)))))] dJ6_bitCount_0f7a4_40 (by decide) rfl rfl ?_
  refine GX_iload_n hC dJ6_bitCount_0f7a4_41 rfl ?_
  refine GX_iload_n hC dJ6_bitCount_0f7a4_42 rfl ?_
  refine GX_bipush hC 16 dJ6_bitCount_0f7a4_43 rfl ?_
  refine GX_iushr hC dJ6_bitCount_0f7a4_45 ?_
  refine GX_iadd hC dJ6_bitCount_0f7a4_46 ?_
  refine GX_istore_n hC [some (.int (bc5 (bc4 (bc3 (bc2 (bc1 x))))))] dJ6_bitCount_0f7a4_47 (by decide) rfl rfl ?_
  refine GX_iload_n hC dJ6_bitCount_0f7a4_48 rfl ?_
  refine GX_bipush hC 63 dJ6_bitCount_0f7a4_49 rfl ?_
  refine GX_iand hC dJ6_bitCount_0f7a4_51 ?_
  exact GX_iretR hC hR dJ6_bitCount_0f7a4_52 rfl
set_option maxRecDepth 100000 in
set_option maxHeartbeats 4000000 in
theorem C_N_shelfAt_n {l : Launch} {d : Int32} {μ : MI} (hs : N_shelfAt d = none) : Cn l yX9_shelfAt cX9_shelfAt 2 (some (.object "NoTwoTouch$Shelf")) 0 LAY (fun ad => .ref (ad 0) :: [.int d]) μ (fun _ => some .null) μ := by
  refine Cn.of (fun ad => [some (.ref (ad 0)), some (.int d)]) (by decide +kernel) (fun _ => rfl) (fun _ => Nat.le_of_ble_eq_true rfl) (fun Γ hl hC hR hk => ?_)
  subst hl
  replace hC : CX Γ cX9_shelfAt RX9 LAY 0 2 := hC
  unfold N_shelfAt at hs
  have h8 : (8 : Int32) = nI 8 := rfl
  refine GX_iload_n hC dX9_shelfAt_0 rfl ?_
  refine GX_if_lt_N hC 22 dX9_shelfAt_1 (by decide) (fun q => ?_) (fun q => ?_)
  · refine GX_iload_n hC dX9_shelfAt_4 rfl ?_
    refine GX_aload_n hC dX9_shelfAt_5 rfl ?_
    refine GX_getR hC fkX9_28 ol_0 rfl dX9_shelfAt_6 ?_
    refine GX_alen hC 8 al_22 (by decide) rfl dX9_shelfAt_9 ?_
    refine GX_icmp_ge_N hC 22 dX9_shelfAt_10 (by decide) (fun q2 => ?_) (fun q2 => ?_)
    · obtain ⟨j, hj, rfl⟩ := nI_of (i32_le_nlt.mp q)
      rw [h8, nI_ltI hj (by decide)] at q2
      have hin : 0 ≤ nI j ∧ (nI j).toNatClampNeg < 8 := ⟨q, by rw [nI_clamp hj]; exact q2⟩
      rw [if_pos hin] at hs
      cases hs
    · refine GX_null hC dX9_shelfAt_22 ?_
      exact GX_aret hC hR (Or.inl rfl) rfl rfl dX9_shelfAt_23
  · refine GX_null hC dX9_shelfAt_22 ?_
    exact GX_aret hC hR (Or.inl rfl) rfl rfl dX9_shelfAt_23
set_option maxRecDepth 100000 in
set_option maxHeartbeats 4000000 in
theorem C_N_shelfAt_s {l : Launch} {d : Int32} {s : Nat} {μ : MI} (hs : N_shelfAt d = some s) : Cn l yX9_shelfAt cX9_shelfAt 2 (some (.object "NoTwoTouch$Shelf")) 0 LAY (fun ad => .ref (ad 0) :: [.int d]) μ (fun ad => some (.ref (ad s))) μ := by
  refine Cn.of (fun ad => [some (.ref (ad 0)), some (.int d)]) (by decide +kernel) (fun _ => rfl) (fun _ => Nat.le_of_ble_eq_true rfl) (fun Γ hl hC hR hk => ?_)
  subst hl
  replace hC : CX Γ cX9_shelfAt RX9 LAY 0 2 := hC
  unfold N_shelfAt at hs
  have h8 : (8 : Int32) = nI 8 := rfl
  refine GX_iload_n hC dX9_shelfAt_0 rfl ?_
  refine GX_if_lt_N hC 22 dX9_shelfAt_1 (by decide) (fun q => ?_) (fun q => ?_)
  · refine GX_iload_n hC dX9_shelfAt_4 rfl ?_
    refine GX_aload_n hC dX9_shelfAt_5 rfl ?_
    refine GX_getR hC fkX9_28 ol_0 rfl dX9_shelfAt_6 ?_
    refine GX_alen hC 8 al_22 (by decide) rfl dX9_shelfAt_9 ?_
    refine GX_icmp_ge_N hC 22 dX9_shelfAt_10 (by decide) (fun q2 => ?_) (fun q2 => ?_)
    · obtain ⟨j, hj, rfl⟩ := nI_of (i32_le_nlt.mp q)
      rw [h8, nI_ltI hj (by decide)] at q2
      have hin : 0 ≤ nI j ∧ (nI j).toNatClampNeg < 8 := ⟨q, by rw [nI_clamp hj]; exact q2⟩
      rw [if_pos hin] at hs
      cases hs
      refine GX_aload_n hC dX9_shelfAt_13 rfl ?_
      refine GX_getR hC fkX9_28 ol_0 rfl dX9_shelfAt_14 ?_
      refine GX_iload_n hC dX9_shelfAt_17 rfl ?_
      refine GX_aald hC (38 + 3 * (nI j).toNatClampNeg) al_22 hin ?_ dX9_shelfAt_18 ?_
      · rw [nI_clamp hj]
        rcases (by omega : j = 0 ∨ j = 1 ∨ j = 2 ∨ j = 3 ∨ j = 4 ∨ j = 5 ∨ j = 6 ∨ j = 7) with rfl | rfl | rfl | rfl | rfl | rfl | rfl | rfl <;> rfl
      refine GX_goto hC 23 dX9_shelfAt_19 (by decide) ?_
      exact GX_aret hC hR (Or.inr ⟨_, rfl⟩) rfl rfl dX9_shelfAt_23
    · split at hs
      · rename_i hh
        obtain ⟨j, hj, rfl⟩ := nI_of (i32_le_nlt.mp q)
        rw [nI_clamp hj] at hh
        exact absurd (by rw [h8, nI_ltI hj (by decide)]; exact hh.2) q2
      · cases hs
  · rw [if_neg (fun h => q h.1)] at hs
    cases hs
