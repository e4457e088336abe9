/-- the law's cases, by their number -/
def Lc (op : Nat) (a1 a2 a3 a4 a5 : Int32) (μ : MI) : Option MI := match op with
  | 0 => Lc_0 a1 μ
  | 1 => Lc_1 a1 a2 μ
  | 2 => Lc_2 a1 a2 μ
  | 3 => Lc_3 a1 a2 μ
  | 4 => Lc_4 a1 a2 μ
  | 5 => Lc_5 a1 a2 μ
  | 6 => Lc_6 a1 a2 μ
  | 7 => Lc_7 μ
  | 8 => Lc_8 μ
  | 9 => Lc_9 a1 a2 μ
  | 10 => Lc_10 a1 μ
  | 11 => Lc_11 a1 μ
  | 12 => Lc_12 a1 μ
  | 13 => Lc_13 a1 a2 μ
  | 14 => Lc_14 a1 μ
  | 15 => Lc_15 a1 μ
  | 16 => Lc_16 a1 μ
  | 17 => Lc_17 a1 a2 μ
  | 18 => Lc_18 μ
  | 19 => Lc_19 a1 μ
  | 20 => Lc_20 μ
  | 21 => Lc_21 a1 a2 μ
  | 22 => Lc_22 a1 a2 μ
  | 23 => Lc_23 μ
  | 24 => Lc_24 μ
  | 25 => Lc_25 a1 μ
  | 26 => Lc_26 a1 a2 a3 a4 μ
  | 27 => Lc_27 a1 a2 a3 μ
  | 28 => Lc_28 a1 a2 a3 μ
  | 29 => Lc_29 a1 a2 μ
  | 30 => Lc_30 a1 a2 a3 a4 a5 μ
  | 31 => Lc_31 a1 μ
  | 32 => Lc_32 a1 μ
  | _ => some μ
theorem lw_cond {i Ls : Nat} (h1 : i < 2 ^ 20) (h2 : Ls < 2 ^ 20) : (nI Ls - 6 < nI i) ↔ Ls < i + 6 := by
  have e6 : (6 : Int32) = nI 6 := by decide
  rw [e6, Int32.lt_iff_toInt_lt, pk_sub_toInt (by omega) (by decide), nI_toInt (by omega)]
  omega
set_option maxRecDepth 100000 in
set_option maxHeartbeats 4000000 in
theorem law_loop {Γ : GT} {b Ls : Nat} {xs : Nat → Int32} (hC : CX Γ cL_law RL LAY 200 8) (hX : SX Γ b Ls xs) (hLs : Ls ≤ 384) (hz : xzG Γ) (hst : (gln Γ).stackTraces = false) (INV : MI → Prop)
    (hstep : ∀ μ, INV μ → ∀ op, op < 33 → ∀ a1 a2 a3 a4 a5, ∃ μ', Lc op a1 a2 a3 a4 a5 μ = some μ' ∧ INV μ')
    (hkk : ∀ k n, k ≤ 600000 → n ≤ 7000000 → kX Γ k n)
    (hend : ∀ k n i μ, k ≤ 600000 → n ≤ 7000000 → GX Γ LAY k n [some (.ref b), some (.ref (gad Γ 0)), some (.ref (gad Γ 62)), some (.ref (gad Γ 92)), some (.int (nI i)), none, none, none] [] μ 1253) :
    ∀ (z i k n : Nat) (μ : MI), INV μ → i ≤ 1000 → Ls ≤ i + 6 * z → k + z ≤ 600000 → n + 6 * z ≤ 7000000 → GX Γ LAY k n [some (.ref b), some (.ref (gad Γ 0)), some (.ref (gad Γ 62)), some (.ref (gad Γ 92)), some (.int (nI i)), none, none, none] [] μ 23 := by
  intro z
  induction z with
  | zero =>
    intro i k n μ hμ hi hz0 hk0 hn0
    refine GX_iload hC dL_law_23 rfl ?_
    refine GX_aload_n hC dL_law_25 rfl ?_
    refine GX_slen hC hX dL_law_26 ?_
    refine GX_bipush hC 6 dL_law_27 rfl ?_
    refine GX_isub hC dL_law_29 ?_
    refine GX_icmp_gt_P hC 1253 dL_law_30 (by decide) (fun q => ?_) (fun q => ?_)
    · exact hend _ _ _ _ (by omega) (by omega)
    · exact absurd ((lw_cond (by omega) (by omega)).mpr (by omega)) q
  | succ z ih =>
    intro i k n μ hμ hi hz0 hk0 hn0
    refine GX_iload hC dL_law_23 rfl ?_
    refine GX_aload_n hC dL_law_25 rfl ?_
    refine GX_slen hC hX dL_law_26 ?_
    refine GX_bipush hC 6 dL_law_27 rfl ?_
    refine GX_isub hC dL_law_29 ?_
    refine GX_icmp_gt_P hC 1253 dL_law_30 (by decide) (fun q => ?_) (fun q => ?_)
    · exact hend _ _ _ _ (by omega) (by omega)
    have hin : i + 5 < Ls := by
      have := mt (lw_cond (i := i) (Ls := Ls) (by omega) (by omega)).mpr q
      omega
    have hk2 : ∀ k' n', k' ≤ k + 1 → n' ≤ n + 6 → kX Γ k' n' := fun k' n' h1 h2 => hkk k' n' (by omega) (by omega)
    have back : ∀ μ', INV μ' → GX Γ LAY (k + 1) (n + 6) [some (.ref b), some (.ref (gad Γ 0)), some (.ref (gad Γ 62)), some (.ref (gad Γ 92)), some (.int (nI i)), none, none, none] [] μ' 1247 := by
      intro μ' hI
      have h6 : nI i + 6 = nI (i + 6) := by
        have h : (6 : Int32) = nI 6 := by decide
        rw [h]; exact nI_add i 6
      refine GX_iinc hC (nI (i + 6)) [some (.ref b), some (.ref (gad Γ 0)), some (.ref (gad Γ 62)), some (.ref (gad Γ 92)), some (.int (nI (i + 6))), none, none, none] dL_law_1247 rfl h6 (by decide) rfl rfl ?_
      refine GX_goto hC 23 dL_law_1250 (by decide) ?_
      exact ih (i + 6) (k + 1) (n + 6) μ' hI (by omega) (by omega) (by omega) (by omega)
    refine GX_aload_n hC dL_law_33 rfl ?_
    refine GX_iload hC dL_law_34 rfl ?_
    refine GX_sld hC hX i rfl (by omega) dL_law_36 ?_
    refine GX_bipush hC 63 dL_law_37 rfl ?_
    refine GX_iand hC dL_law_39 ?_
    obtain ⟨j, hj64, hj⟩ := pk_andE (xs i) (m := 63) 6 (by decide)
    by_cases h33 : 33 ≤ j
    · refine GX_tableOut hC 1247 dL_law_40 (Or.inr ?_) (by decide) ?_
      · rw [hj, nI_toInt (by omega)]; omega
      · exact GX_wd (by omega) (by omega) (back μ hμ)
    rcases (by omega : j = 0 ∨ j = 1 ∨ j = 2 ∨ j = 3 ∨ j = 4 ∨ j = 5 ∨ j = 6 ∨ j = 7 ∨ j = 8 ∨ j = 9 ∨ j = 10 ∨ j = 11 ∨ j = 12 ∨ j = 13 ∨ j = 14 ∨ j = 15 ∨ j = 16 ∨ j = 17 ∨ j = 18 ∨ j = 19 ∨ j = 20 ∨ j = 21 ∨ j = 22 ∨ j = 23 ∨ j = 24 ∨ j = 25 ∨ j = 26 ∨ j = 27 ∨ j = 28 ∨ j = 29 ∨ j = 30 ∨ j = 31 ∨ j = 32) with rfl | rfl | rfl | rfl | rfl | rfl | rfl | rfl | rfl | rfl | rfl | rfl | rfl | rfl | rfl | rfl | rfl | rfl | rfl | rfl | rfl | rfl | rfl | rfl | rfl | rfl | rfl | rfl | rfl | rfl | rfl | rfl | rfl
    · obtain ⟨μ', hf, hI⟩ := hstep μ hμ 0 (by decide) (xs (i + 1)) (xs (i + 2)) (xs (i + 3)) (xs (i + 4)) (xs (i + 5))
      refine GX_tableIn hC 0 188 dL_law_40 hj (by decide) (by decide) rfl (by decide) ?_
      exact LW_0 hC hX hz hst (by omega) hf hk2 (back μ' hI)
    · obtain ⟨μ', hf, hI⟩ := hstep μ hμ 1 (by decide) (xs (i + 1)) (xs (i + 2)) (xs (i + 3)) (xs (i + 4)) (xs (i + 5))
      refine GX_tableIn hC 1 213 dL_law_40 hj (by decide) (by decide) rfl (by decide) ?_
      exact LW_1 hC hX hz hst (by omega) hf hk2 (back μ' hI)
    · obtain ⟨μ', hf, hI⟩ := hstep μ hμ 2 (by decide) (xs (i + 1)) (xs (i + 2)) (xs (i + 3)) (xs (i + 4)) (xs (i + 5))
      refine GX_tableIn hC 2 250 dL_law_40 hj (by decide) (by decide) rfl (by decide) ?_
      exact LW_2 hC hX hz hst (by omega) hf hk2 (back μ' hI)
    · obtain ⟨μ', hf, hI⟩ := hstep μ hμ 3 (by decide) (xs (i + 1)) (xs (i + 2)) (xs (i + 3)) (xs (i + 4)) (xs (i + 5))
      refine GX_tableIn hC 3 287 dL_law_40 hj (by decide) (by decide) rfl (by decide) ?_
      exact LW_3 hC hX hz hst (by omega) hf hk2 (back μ' hI)
    · obtain ⟨μ', hf, hI⟩ := hstep μ hμ 4 (by decide) (xs (i + 1)) (xs (i + 2)) (xs (i + 3)) (xs (i + 4)) (xs (i + 5))
      refine GX_tableIn hC 4 324 dL_law_40 hj (by decide) (by decide) rfl (by decide) ?_
      exact LW_4 hC hX hz hst (by omega) hf hk2 (back μ' hI)
    · obtain ⟨μ', hf, hI⟩ := hstep μ hμ 5 (by decide) (xs (i + 1)) (xs (i + 2)) (xs (i + 3)) (xs (i + 4)) (xs (i + 5))
      refine GX_tableIn hC 5 361 dL_law_40 hj (by decide) (by decide) rfl (by decide) ?_
      exact LW_5 hC hX hz hst (by omega) hf hk2 (back μ' hI)
    · obtain ⟨μ', hf, hI⟩ := hstep μ hμ 6 (by decide) (xs (i + 1)) (xs (i + 2)) (xs (i + 3)) (xs (i + 4)) (xs (i + 5))
      refine GX_tableIn hC 6 398 dL_law_40 hj (by decide) (by decide) rfl (by decide) ?_
      exact LW_6 hC hX hz hst (by omega) hf hk2 (back μ' hI)
    · obtain ⟨μ', hf, hI⟩ := hstep μ hμ 7 (by decide) (xs (i + 1)) (xs (i + 2)) (xs (i + 3)) (xs (i + 4)) (xs (i + 5))
      refine GX_tableIn hC 7 435 dL_law_40 hj (by decide) (by decide) rfl (by decide) ?_
      exact LW_7 hC hX hz hst (by omega) hf hk2 (back μ' hI)
    · obtain ⟨μ', hf, hI⟩ := hstep μ hμ 8 (by decide) (xs (i + 1)) (xs (i + 2)) (xs (i + 3)) (xs (i + 4)) (xs (i + 5))
      refine GX_tableIn hC 8 448 dL_law_40 hj (by decide) (by decide) rfl (by decide) ?_
      exact LW_8 hC hX hz hst (by omega) hf hk2 (back μ' hI)
    · obtain ⟨μ', hf, hI⟩ := hstep μ hμ 9 (by decide) (xs (i + 1)) (xs (i + 2)) (xs (i + 3)) (xs (i + 4)) (xs (i + 5))
      refine GX_tableIn hC 9 461 dL_law_40 hj (by decide) (by decide) rfl (by decide) ?_
      exact LW_9 hC hX hz hst (by omega) hf hk2 (back μ' hI)
    · obtain ⟨μ', hf, hI⟩ := hstep μ hμ 10 (by decide) (xs (i + 1)) (xs (i + 2)) (xs (i + 3)) (xs (i + 4)) (xs (i + 5))
      refine GX_tableIn hC 10 498 dL_law_40 hj (by decide) (by decide) rfl (by decide) ?_
      exact LW_10 hC hX hz hst (by omega) hf hk2 (back μ' hI)
    · obtain ⟨μ', hf, hI⟩ := hstep μ hμ 11 (by decide) (xs (i + 1)) (xs (i + 2)) (xs (i + 3)) (xs (i + 4)) (xs (i + 5))
      refine GX_tableIn hC 11 523 dL_law_40 hj (by decide) (by decide) rfl (by decide) ?_
      exact LW_11 hC hX hz hst (by omega) hf hk2 (back μ' hI)
    · obtain ⟨μ', hf, hI⟩ := hstep μ hμ 12 (by decide) (xs (i + 1)) (xs (i + 2)) (xs (i + 3)) (xs (i + 4)) (xs (i + 5))
      refine GX_tableIn hC 12 548 dL_law_40 hj (by decide) (by decide) rfl (by decide) ?_
      exact LW_12 hC hX hz hst (by omega) hf hk2 (back μ' hI)
    · obtain ⟨μ', hf, hI⟩ := hstep μ hμ 13 (by decide) (xs (i + 1)) (xs (i + 2)) (xs (i + 3)) (xs (i + 4)) (xs (i + 5))
      refine GX_tableIn hC 13 573 dL_law_40 hj (by decide) (by decide) rfl (by decide) ?_
      exact LW_13 hC hX hz hst (by omega) hf hk2 (back μ' hI)
    · obtain ⟨μ', hf, hI⟩ := hstep μ hμ 14 (by decide) (xs (i + 1)) (xs (i + 2)) (xs (i + 3)) (xs (i + 4)) (xs (i + 5))
      refine GX_tableIn hC 14 610 dL_law_40 hj (by decide) (by decide) rfl (by decide) ?_
      exact LW_14 hC hX hz hst (by omega) hf hk2 (back μ' hI)
    · obtain ⟨μ', hf, hI⟩ := hstep μ hμ 15 (by decide) (xs (i + 1)) (xs (i + 2)) (xs (i + 3)) (xs (i + 4)) (xs (i + 5))
      refine GX_tableIn hC 15 635 dL_law_40 hj (by decide) (by decide) rfl (by decide) ?_
      exact LW_15 hC hX hz hst (by omega) hf hk2 (back μ' hI)
    · obtain ⟨μ', hf, hI⟩ := hstep μ hμ 16 (by decide) (xs (i + 1)) (xs (i + 2)) (xs (i + 3)) (xs (i + 4)) (xs (i + 5))
      refine GX_tableIn hC 16 660 dL_law_40 hj (by decide) (by decide) rfl (by decide) ?_
      exact LW_16 hC hX hz hst (by omega) hf hk2 (back μ' hI)
    · obtain ⟨μ', hf, hI⟩ := hstep μ hμ 17 (by decide) (xs (i + 1)) (xs (i + 2)) (xs (i + 3)) (xs (i + 4)) (xs (i + 5))
      refine GX_tableIn hC 17 685 dL_law_40 hj (by decide) (by decide) rfl (by decide) ?_
      exact LW_17 hC hX hz hst (by omega) hf hk2 (back μ' hI)
    · obtain ⟨μ', hf, hI⟩ := hstep μ hμ 18 (by decide) (xs (i + 1)) (xs (i + 2)) (xs (i + 3)) (xs (i + 4)) (xs (i + 5))
      refine GX_tableIn hC 18 722 dL_law_40 hj (by decide) (by decide) rfl (by decide) ?_
      exact LW_18 hC hX hz hst (by omega) hf hk2 (back μ' hI)
    · obtain ⟨μ', hf, hI⟩ := hstep μ hμ 19 (by decide) (xs (i + 1)) (xs (i + 2)) (xs (i + 3)) (xs (i + 4)) (xs (i + 5))
      refine GX_tableIn hC 19 735 dL_law_40 hj (by decide) (by decide) rfl (by decide) ?_
      exact LW_19 hC hX hz hst (by omega) hf hk2 (back μ' hI)
    · obtain ⟨μ', hf, hI⟩ := hstep μ hμ 20 (by decide) (xs (i + 1)) (xs (i + 2)) (xs (i + 3)) (xs (i + 4)) (xs (i + 5))
      refine GX_tableIn hC 20 760 dL_law_40 hj (by decide) (by decide) rfl (by decide) ?_
      exact LW_20 hC hX hz hst (by omega) hf hk2 (back μ' hI)
    · obtain ⟨μ', hf, hI⟩ := hstep μ hμ 21 (by decide) (xs (i + 1)) (xs (i + 2)) (xs (i + 3)) (xs (i + 4)) (xs (i + 5))
      refine GX_tableIn hC 21 773 dL_law_40 hj (by decide) (by decide) rfl (by decide) ?_
      exact LW_21 hC hX hz hst (by omega) hf hk2 (back μ' hI)
    · obtain ⟨μ', hf, hI⟩ := hstep μ hμ 22 (by decide) (xs (i + 1)) (xs (i + 2)) (xs (i + 3)) (xs (i + 4)) (xs (i + 5))
      refine GX_tableIn hC 22 810 dL_law_40 hj (by decide) (by decide) rfl (by decide) ?_
      exact LW_22 hC hX hz hst (by omega) hf hk2 (back μ' hI)
    · obtain ⟨μ', hf, hI⟩ := hstep μ hμ 23 (by decide) (xs (i + 1)) (xs (i + 2)) (xs (i + 3)) (xs (i + 4)) (xs (i + 5))
      refine GX_tableIn hC 23 847 dL_law_40 hj (by decide) (by decide) rfl (by decide) ?_
      exact LW_23 hC hX hz hst (by omega) hf hk2 (back μ' hI)
    · obtain ⟨μ', hf, hI⟩ := hstep μ hμ 24 (by decide) (xs (i + 1)) (xs (i + 2)) (xs (i + 3)) (xs (i + 4)) (xs (i + 5))
      refine GX_tableIn hC 24 860 dL_law_40 hj (by decide) (by decide) rfl (by decide) ?_
      exact LW_24 hC hX hz hst (by omega) hf hk2 (back μ' hI)
    · obtain ⟨μ', hf, hI⟩ := hstep μ hμ 25 (by decide) (xs (i + 1)) (xs (i + 2)) (xs (i + 3)) (xs (i + 4)) (xs (i + 5))
      refine GX_tableIn hC 25 873 dL_law_40 hj (by decide) (by decide) rfl (by decide) ?_
      exact LW_25 hC hX hz hst (by omega) hf hk2 (back μ' hI)
    · obtain ⟨μ', hf, hI⟩ := hstep μ hμ 26 (by decide) (xs (i + 1)) (xs (i + 2)) (xs (i + 3)) (xs (i + 4)) (xs (i + 5))
      refine GX_tableIn hC 26 898 dL_law_40 hj (by decide) (by decide) rfl (by decide) ?_
      exact LW_26 hC hX hz hst (by omega) hf hk2 (back μ' hI)
    · obtain ⟨μ', hf, hI⟩ := hstep μ hμ 27 (by decide) (xs (i + 1)) (xs (i + 2)) (xs (i + 3)) (xs (i + 4)) (xs (i + 5))
      refine GX_tableIn hC 27 959 dL_law_40 hj (by decide) (by decide) rfl (by decide) ?_
      exact LW_27 hC hX hz hst (by omega) hf hk2 (back μ' hI)
    · obtain ⟨μ', hf, hI⟩ := hstep μ hμ 28 (by decide) (xs (i + 1)) (xs (i + 2)) (xs (i + 3)) (xs (i + 4)) (xs (i + 5))
      refine GX_tableIn hC 28 1008 dL_law_40 hj (by decide) (by decide) rfl (by decide) ?_
      exact LW_28 hC hX hz hst (by omega) hf hk2 (back μ' hI)
    · obtain ⟨μ', hf, hI⟩ := hstep μ hμ 29 (by decide) (xs (i + 1)) (xs (i + 2)) (xs (i + 3)) (xs (i + 4)) (xs (i + 5))
      refine GX_tableIn hC 29 1057 dL_law_40 hj (by decide) (by decide) rfl (by decide) ?_
      exact LW_29 hC hX hz hst (by omega) hf hk2 (back μ' hI)
    · obtain ⟨μ', hf, hI⟩ := hstep μ hμ 30 (by decide) (xs (i + 1)) (xs (i + 2)) (xs (i + 3)) (xs (i + 4)) (xs (i + 5))
      refine GX_tableIn hC 30 1124 dL_law_40 hj (by decide) (by decide) rfl (by decide) ?_
      exact LW_30 hC hX hz hst (by omega) hf hk2 (back μ' hI)
    · obtain ⟨μ', hf, hI⟩ := hstep μ hμ 31 (by decide) (xs (i + 1)) (xs (i + 2)) (xs (i + 3)) (xs (i + 4)) (xs (i + 5))
      refine GX_tableIn hC 31 1197 dL_law_40 hj (by decide) (by decide) rfl (by decide) ?_
      exact LW_31 hC hX hz hst (by omega) hf hk2 (back μ' hI)
    · obtain ⟨μ', hf, hI⟩ := hstep μ hμ 32 (by decide) (xs (i + 1)) (xs (i + 2)) (xs (i + 3)) (xs (i + 4)) (xs (i + 5))
      refine GX_tableIn hC 32 1222 dL_law_40 hj (by decide) (by decide) rfl (by decide) ?_
      exact LW_32 hC hX hz hst (by omega) hf hk2 (back μ' hI)
