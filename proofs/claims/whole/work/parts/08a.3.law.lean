set_option maxRecDepth 100000 in
set_option maxHeartbeats 4000000 in
theorem LW_12 {Γ : GT} {b Ls : Nat} {xs : Nat → Int32} (hC : CX Γ cL_law RL LAY 200 8) (hX : SX Γ b Ls xs) (hz : xzG Γ) (hst : (gln Γ).stackTraces = false) {k n i : Nat} {m1 m_ : MI} (hi : i + 5 < Ls) (hf : Lc_12 (xs (i + 1)) m1 = some m_) (hk : ∀ k' n', k' ≤ k + 1 → n' ≤ n + 6 → kX Γ k' n')
    (kk : GX Γ LAY (k + 1) (n + 6) [some (.ref b), some (.ref (gad Γ 0)), some (.ref (gad Γ 62)), some (.ref (gad Γ 92)), some (.int (nI i)), none, none, none] [] m_ 1247) : GX Γ LAY k n [some (.ref b), some (.ref (gad Γ 0)), some (.ref (gad Γ 62)), some (.ref (gad Γ 92)), some (.int (nI i)), none, none, none] [] m1 548 := by
  dsimp only [Lc_12] at hf
  refine GX_aload_n hC dL_law_548 rfl ?_
  refine GX_aload_n hC dL_law_549 rfl ?_
  refine GX_iload hC dL_law_550 rfl ?_
  refine GX_iconst hC 1 dL_law_552 rfl ?_
  refine GX_iadd hC dL_law_553 ?_
  refine GX_sld hC hX (i + 1) (nIp1 i) (by omega) dL_law_554 ?_
  obtain ⟨⟨r2, m3⟩, e4, h5⟩ := ob hf
  refine GX_callV_i (st := []) hC (C_N_fewest e4) okX9_fewest lkXL_72 ol_0 rfl rfl (Nat.le_of_ble_eq_true rfl) (Nat.le_of_ble_eq_true rfl) (hk _ _ (by omega) (by omega)) rfl (Nat.le_of_ble_eq_true rfl) dL_law_555 ?_
  refine GX_aload_n hC dL_law_558 rfl ?_
  refine GX_aload_n hC dL_law_559 rfl ?_
  refine GX_iload hC dL_law_560 rfl ?_
  refine GX_iconst hC 1 dL_law_562 rfl ?_
  refine GX_iadd hC dL_law_563 ?_
  refine GX_sld hC hX (i + 1) (nIp1 i) (by omega) dL_law_564 ?_
  obtain ⟨⟨r6, m7⟩, e8, h9⟩ := ob h5
  refine GX_callV_i (st := [.int r2]) hC (C_M_fewest e8) okX10_fewest lkXL_75 ol_62 rfl rfl (Nat.le_of_ble_eq_true rfl) (Nat.le_of_ble_eq_true rfl) (hk _ _ (by omega) (by omega)) rfl (Nat.le_of_ble_eq_true rfl) dL_law_565 ?_
  refine GX_icmp_eq_P hC 1247 dL_law_568 (by decide) (fun q => ?_) (fun q => ?_)
  · skip
    have h10 := oi (ifP q h9)
    subst h10
    exact GX_wd (by omega) (by omega) kk
  · skip
    exact absurd (ifN q h9) (by simp)
set_option maxRecDepth 100000 in
set_option maxHeartbeats 4000000 in
theorem LW_13 {Γ : GT} {b Ls : Nat} {xs : Nat → Int32} (hC : CX Γ cL_law RL LAY 200 8) (hX : SX Γ b Ls xs) (hz : xzG Γ) (hst : (gln Γ).stackTraces = false) {k n i : Nat} {m1 m_ : MI} (hi : i + 5 < Ls) (hf : Lc_13 (xs (i + 1)) (xs (i + 2)) m1 = some m_) (hk : ∀ k' n', k' ≤ k + 1 → n' ≤ n + 6 → kX Γ k' n')
    (kk : GX Γ LAY (k + 1) (n + 6) [some (.ref b), some (.ref (gad Γ 0)), some (.ref (gad Γ 62)), some (.ref (gad Γ 92)), some (.int (nI i)), none, none, none] [] m_ 1247) : GX Γ LAY k n [some (.ref b), some (.ref (gad Γ 0)), some (.ref (gad Γ 62)), some (.ref (gad Γ 92)), some (.int (nI i)), none, none, none] [] m1 573 := by
  dsimp only [Lc_13] at hf
  refine GX_aload_n hC dL_law_573 rfl ?_
  refine GX_aload_n hC dL_law_574 rfl ?_
  refine GX_iload hC dL_law_575 rfl ?_
  refine GX_iconst hC 1 dL_law_577 rfl ?_
  refine GX_iadd hC dL_law_578 ?_
  refine GX_sld hC hX (i + 1) (nIp1 i) (by omega) dL_law_579 ?_
  refine GX_aload_n hC dL_law_580 rfl ?_
  refine GX_iload hC dL_law_581 rfl ?_
  refine GX_iconst hC 2 dL_law_583 rfl ?_
  refine GX_iadd hC dL_law_584 ?_
  refine GX_sld hC hX (i + 2) (nIp2 i) (by omega) dL_law_585 ?_
  obtain ⟨r2, e3, h4⟩ := ob hf
  refine GX_callV_i (st := []) hC (C_N_most e3) okX9_most lkXL_76 ol_0 rfl rfl (Nat.le_of_ble_eq_true rfl) (Nat.le_of_ble_eq_true rfl) (hk _ _ (by omega) (by omega)) rfl (Nat.le_of_ble_eq_true rfl) dL_law_586 ?_
  refine GX_aload_n hC dL_law_589 rfl ?_
  refine GX_aload_n hC dL_law_590 rfl ?_
  refine GX_iload hC dL_law_591 rfl ?_
  refine GX_iconst hC 1 dL_law_593 rfl ?_
  refine GX_iadd hC dL_law_594 ?_
  refine GX_sld hC hX (i + 1) (nIp1 i) (by omega) dL_law_595 ?_
  refine GX_aload_n hC dL_law_596 rfl ?_
  refine GX_iload hC dL_law_597 rfl ?_
  refine GX_iconst hC 2 dL_law_599 rfl ?_
  refine GX_iadd hC dL_law_600 ?_
  refine GX_sld hC hX (i + 2) (nIp2 i) (by omega) dL_law_601 ?_
  obtain ⟨⟨r5, m6⟩, e7, h8⟩ := ob h4
  refine GX_callV_i (st := [.int r2]) hC (C_M_most e7) okX10_most lkXL_79 ol_62 rfl rfl (Nat.le_of_ble_eq_true rfl) (Nat.le_of_ble_eq_true rfl) (hk _ _ (by omega) (by omega)) rfl (Nat.le_of_ble_eq_true rfl) dL_law_602 ?_
  refine GX_icmp_eq_P hC 1247 dL_law_605 (by decide) (fun q => ?_) (fun q => ?_)
  · skip
    have h9 := oi (ifP q h8)
    subst h9
    exact GX_wd (by omega) (by omega) kk
  · skip
    exact absurd (ifN q h8) (by simp)
set_option maxRecDepth 100000 in
set_option maxHeartbeats 4000000 in
theorem LW_14 {Γ : GT} {b Ls : Nat} {xs : Nat → Int32} (hC : CX Γ cL_law RL LAY 200 8) (hX : SX Γ b Ls xs) (hz : xzG Γ) (hst : (gln Γ).stackTraces = false) {k n i : Nat} {m1 m_ : MI} (hi : i + 5 < Ls) (hf : Lc_14 (xs (i + 1)) m1 = some m_) (hk : ∀ k' n', k' ≤ k + 1 → n' ≤ n + 6 → kX Γ k' n')
    (kk : GX Γ LAY (k + 1) (n + 6) [some (.ref b), some (.ref (gad Γ 0)), some (.ref (gad Γ 62)), some (.ref (gad Γ 92)), some (.int (nI i)), none, none, none] [] m_ 1247) : GX Γ LAY k n [some (.ref b), some (.ref (gad Γ 0)), some (.ref (gad Γ 62)), some (.ref (gad Γ 92)), some (.int (nI i)), none, none, none] [] m1 610 := by
  dsimp only [Lc_14] at hf
  refine GX_aload_n hC dL_law_610 rfl ?_
  refine GX_aload_n hC dL_law_611 rfl ?_
  refine GX_iload hC dL_law_612 rfl ?_
  refine GX_iconst hC 1 dL_law_614 rfl ?_
  refine GX_iadd hC dL_law_615 ?_
  refine GX_sld hC hX (i + 1) (nIp1 i) (by omega) dL_law_616 ?_
  obtain ⟨⟨r2, m3⟩, e4, h5⟩ := ob hf
  refine GX_callV_i (st := []) hC (C_N_best e4) okX9_best lkXL_80 ol_0 rfl rfl (Nat.le_of_ble_eq_true rfl) (Nat.le_of_ble_eq_true rfl) (hk _ _ (by omega) (by omega)) rfl (Nat.le_of_ble_eq_true rfl) dL_law_617 ?_
  refine GX_aload_n hC dL_law_620 rfl ?_
  refine GX_aload_n hC dL_law_621 rfl ?_
  refine GX_iload hC dL_law_622 rfl ?_
  refine GX_iconst hC 1 dL_law_624 rfl ?_
  refine GX_iadd hC dL_law_625 ?_
  refine GX_sld hC hX (i + 1) (nIp1 i) (by omega) dL_law_626 ?_
  obtain ⟨⟨r6, m7⟩, e8, h9⟩ := ob h5
  refine GX_callV_i (st := [.int r2]) hC (C_M_best e8) okX10_best lkXL_83 ol_62 rfl rfl (Nat.le_of_ble_eq_true rfl) (Nat.le_of_ble_eq_true rfl) (hk _ _ (by omega) (by omega)) rfl (Nat.le_of_ble_eq_true rfl) dL_law_627 ?_
  refine GX_icmp_eq_P hC 1247 dL_law_630 (by decide) (fun q => ?_) (fun q => ?_)
  · skip
    have h10 := oi (ifP q h9)
    subst h10
    exact GX_wd (by omega) (by omega) kk
  · skip
    exact absurd (ifN q h9) (by simp)
set_option maxRecDepth 100000 in
set_option maxHeartbeats 4000000 in
theorem LW_15 {Γ : GT} {b Ls : Nat} {xs : Nat → Int32} (hC : CX Γ cL_law RL LAY 200 8) (hX : SX Γ b Ls xs) (hz : xzG Γ) (hst : (gln Γ).stackTraces = false) {k n i : Nat} {m1 m_ : MI} (hi : i + 5 < Ls) (hf : Lc_15 (xs (i + 1)) m1 = some m_) (hk : ∀ k' n', k' ≤ k + 1 → n' ≤ n + 6 → kX Γ k' n')
    (kk : GX Γ LAY (k + 1) (n + 6) [some (.ref b), some (.ref (gad Γ 0)), some (.ref (gad Γ 62)), some (.ref (gad Γ 92)), some (.int (nI i)), none, none, none] [] m_ 1247) : GX Γ LAY k n [some (.ref b), some (.ref (gad Γ 0)), some (.ref (gad Γ 62)), some (.ref (gad Γ 92)), some (.int (nI i)), none, none, none] [] m1 635 := by
  dsimp only [Lc_15] at hf
  refine GX_aload_n hC dL_law_635 rfl ?_
  refine GX_aload_n hC dL_law_636 rfl ?_
  refine GX_iload hC dL_law_637 rfl ?_
  refine GX_iconst hC 1 dL_law_639 rfl ?_
  refine GX_iadd hC dL_law_640 ?_
  refine GX_sld hC hX (i + 1) (nIp1 i) (by omega) dL_law_641 ?_
  obtain ⟨⟨r2, m3⟩, e4, h5⟩ := ob hf
  refine GX_callV_i (st := []) hC (C_N_withMusts e4) okX9_withMusts lkXL_84 ol_0 rfl rfl (Nat.le_of_ble_eq_true rfl) (Nat.le_of_ble_eq_true rfl) (hk _ _ (by omega) (by omega)) rfl (Nat.le_of_ble_eq_true rfl) dL_law_642 ?_
  refine GX_aload_n hC dL_law_645 rfl ?_
  refine GX_aload_n hC dL_law_646 rfl ?_
  refine GX_iload hC dL_law_647 rfl ?_
  refine GX_iconst hC 1 dL_law_649 rfl ?_
  refine GX_iadd hC dL_law_650 ?_
  refine GX_sld hC hX (i + 1) (nIp1 i) (by omega) dL_law_651 ?_
  obtain ⟨⟨r6, m7⟩, e8, h9⟩ := ob h5
  refine GX_callV_i (st := [.int r2]) hC (C_M_withMusts e8) okX10_withMusts lkXL_87 ol_62 rfl rfl (Nat.le_of_ble_eq_true rfl) (Nat.le_of_ble_eq_true rfl) (hk _ _ (by omega) (by omega)) rfl (Nat.le_of_ble_eq_true rfl) dL_law_652 ?_
  refine GX_icmp_eq_P hC 1247 dL_law_655 (by decide) (fun q => ?_) (fun q => ?_)
  · skip
    have h10 := oi (ifP q h9)
    subst h10
    exact GX_wd (by omega) (by omega) kk
  · skip
    exact absurd (ifN q h9) (by simp)
set_option maxRecDepth 100000 in
set_option maxHeartbeats 4000000 in
theorem LW_16 {Γ : GT} {b Ls : Nat} {xs : Nat → Int32} (hC : CX Γ cL_law RL LAY 200 8) (hX : SX Γ b Ls xs) (hz : xzG Γ) (hst : (gln Γ).stackTraces = false) {k n i : Nat} {m1 m_ : MI} (hi : i + 5 < Ls) (hf : Lc_16 (xs (i + 1)) m1 = some m_) (hk : ∀ k' n', k' ≤ k + 1 → n' ≤ n + 6 → kX Γ k' n')
    (kk : GX Γ LAY (k + 1) (n + 6) [some (.ref b), some (.ref (gad Γ 0)), some (.ref (gad Γ 62)), some (.ref (gad Γ 92)), some (.int (nI i)), none, none, none] [] m_ 1247) : GX Γ LAY k n [some (.ref b), some (.ref (gad Γ 0)), some (.ref (gad Γ 62)), some (.ref (gad Γ 92)), some (.int (nI i)), none, none, none] [] m1 660 := by
  dsimp only [Lc_16] at hf
  refine GX_aload_n hC dL_law_660 rfl ?_
  refine GX_aload_n hC dL_law_661 rfl ?_
  refine GX_iload hC dL_law_662 rfl ?_
  refine GX_iconst hC 1 dL_law_664 rfl ?_
  refine GX_iadd hC dL_law_665 ?_
  refine GX_sld hC hX (i + 1) (nIp1 i) (by omega) dL_law_666 ?_
  obtain ⟨⟨r2, m3⟩, e4, h5⟩ := ob hf
  refine GX_callV_i (st := []) hC (C_N_chain e4) okX9_chain lkXL_88 ol_0 rfl rfl (Nat.le_of_ble_eq_true rfl) (Nat.le_of_ble_eq_true rfl) (hk _ _ (by omega) (by omega)) rfl (Nat.le_of_ble_eq_true rfl) dL_law_667 ?_
  refine GX_aload_n hC dL_law_670 rfl ?_
  refine GX_aload_n hC dL_law_671 rfl ?_
  refine GX_iload hC dL_law_672 rfl ?_
  refine GX_iconst hC 1 dL_law_674 rfl ?_
  refine GX_iadd hC dL_law_675 ?_
  refine GX_sld hC hX (i + 1) (nIp1 i) (by omega) dL_law_676 ?_
  obtain ⟨⟨r6, m7⟩, e8, h9⟩ := ob h5
  refine GX_callV_i (st := [.int r2]) hC (C_M_chain e8) okX10_chain lkXL_91 ol_62 rfl rfl (Nat.le_of_ble_eq_true rfl) (Nat.le_of_ble_eq_true rfl) (hk _ _ (by omega) (by omega)) rfl (Nat.le_of_ble_eq_true rfl) dL_law_677 ?_
  refine GX_icmp_eq_P hC 1247 dL_law_680 (by decide) (fun q => ?_) (fun q => ?_)
  · skip
    have h10 := oi (ifP q h9)
    subst h10
    exact GX_wd (by omega) (by omega) kk
  · skip
    exact absurd (ifN q h9) (by simp)
set_option maxRecDepth 100000 in
set_option maxHeartbeats 4000000 in
theorem LW_17 {Γ : GT} {b Ls : Nat} {xs : Nat → Int32} (hC : CX Γ cL_law RL LAY 200 8) (hX : SX Γ b Ls xs) (hz : xzG Γ) (hst : (gln Γ).stackTraces = false) {k n i : Nat} {m1 m_ : MI} (hi : i + 5 < Ls) (hf : Lc_17 (xs (i + 1)) (xs (i + 2)) m1 = some m_) (hk : ∀ k' n', k' ≤ k + 1 → n' ≤ n + 6 → kX Γ k' n')
    (kk : GX Γ LAY (k + 1) (n + 6) [some (.ref b), some (.ref (gad Γ 0)), some (.ref (gad Γ 62)), some (.ref (gad Γ 92)), some (.int (nI i)), none, none, none] [] m_ 1247) : GX Γ LAY k n [some (.ref b), some (.ref (gad Γ 0)), some (.ref (gad Γ 62)), some (.ref (gad Γ 92)), some (.int (nI i)), none, none, none] [] m1 685 := by
  dsimp only [Lc_17] at hf
  refine GX_aload_n hC dL_law_685 rfl ?_
  refine GX_aload_n hC dL_law_686 rfl ?_
  refine GX_iload hC dL_law_687 rfl ?_
  refine GX_iconst hC 1 dL_law_689 rfl ?_
  refine GX_iadd hC dL_law_690 ?_
  refine GX_sld hC hX (i + 1) (nIp1 i) (by omega) dL_law_691 ?_
  refine GX_aload_n hC dL_law_692 rfl ?_
  refine GX_iload hC dL_law_693 rfl ?_
  refine GX_iconst hC 2 dL_law_695 rfl ?_
  refine GX_iadd hC dL_law_696 ?_
  refine GX_sld hC hX (i + 2) (nIp2 i) (by omega) dL_law_697 ?_
  obtain ⟨⟨r2, m3⟩, e4, h5⟩ := ob hf
  refine GX_callV_i (st := []) hC (C_N_flood e4) okX9_flood lkXL_92 ol_0 rfl rfl (Nat.le_of_ble_eq_true rfl) (Nat.le_of_ble_eq_true rfl) (hk _ _ (by omega) (by omega)) rfl (Nat.le_of_ble_eq_true rfl) dL_law_698 ?_
  refine GX_aload_n hC dL_law_701 rfl ?_
  refine GX_aload_n hC dL_law_702 rfl ?_
  refine GX_iload hC dL_law_703 rfl ?_
  refine GX_iconst hC 1 dL_law_705 rfl ?_
  refine GX_iadd hC dL_law_706 ?_
  refine GX_sld hC hX (i + 1) (nIp1 i) (by omega) dL_law_707 ?_
  refine GX_aload_n hC dL_law_708 rfl ?_
  refine GX_iload hC dL_law_709 rfl ?_
  refine GX_iconst hC 2 dL_law_711 rfl ?_
  refine GX_iadd hC dL_law_712 ?_
  refine GX_sld hC hX (i + 2) (nIp2 i) (by omega) dL_law_713 ?_
  obtain ⟨⟨r6, m7⟩, e8, h9⟩ := ob h5
  refine GX_callV_i (st := [.int r2]) hC (C_M_flood e8) okX10_flood lkXL_95 ol_62 rfl rfl (Nat.le_of_ble_eq_true rfl) (Nat.le_of_ble_eq_true rfl) (hk _ _ (by omega) (by omega)) rfl (Nat.le_of_ble_eq_true rfl) dL_law_714 ?_
  refine GX_icmp_eq_P hC 1247 dL_law_717 (by decide) (fun q => ?_) (fun q => ?_)
  · skip
    have h10 := oi (ifP q h9)
    subst h10
    exact GX_wd (by omega) (by omega) kk
  · skip
    exact absurd (ifN q h9) (by simp)
set_option maxRecDepth 100000 in
set_option maxHeartbeats 4000000 in
theorem LW_18 {Γ : GT} {b Ls : Nat} {xs : Nat → Int32} (hC : CX Γ cL_law RL LAY 200 8) (hX : SX Γ b Ls xs) (hz : xzG Γ) (hst : (gln Γ).stackTraces = false) {k n i : Nat} {m1 m_ : MI} (hi : i + 5 < Ls) (hf : Lc_18 m1 = some m_) (hk : ∀ k' n', k' ≤ k + 1 → n' ≤ n + 6 → kX Γ k' n')
    (kk : GX Γ LAY (k + 1) (n + 6) [some (.ref b), some (.ref (gad Γ 0)), some (.ref (gad Γ 62)), some (.ref (gad Γ 92)), some (.int (nI i)), none, none, none] [] m_ 1247) : GX Γ LAY k n [some (.ref b), some (.ref (gad Γ 0)), some (.ref (gad Γ 62)), some (.ref (gad Γ 92)), some (.int (nI i)), none, none, none] [] m1 722 := by
  dsimp only [Lc_18] at hf
  refine GX_aload_n hC dL_law_722 rfl ?_
  obtain ⟨⟨r2, m3⟩, e4, h5⟩ := ob hf
  refine GX_callV_i (st := []) hC (C_N_frees e4) okX9_frees lkXL_96 ol_0 rfl rfl (Nat.le_of_ble_eq_true rfl) (Nat.le_of_ble_eq_true rfl) (hk _ _ (by omega) (by omega)) rfl (Nat.le_of_ble_eq_true rfl) dL_law_723 ?_
  refine GX_aload_n hC dL_law_726 rfl ?_
  obtain ⟨⟨r6, m7⟩, e8, h9⟩ := ob h5
  refine GX_callV_i (st := [.int r2]) hC (C_M_frees e8) okX10_frees lkXL_99 ol_62 rfl rfl (Nat.le_of_ble_eq_true rfl) (Nat.le_of_ble_eq_true rfl) (hk _ _ (by omega) (by omega)) rfl (Nat.le_of_ble_eq_true rfl) dL_law_727 ?_
  refine GX_icmp_eq_P hC 1247 dL_law_730 (by decide) (fun q => ?_) (fun q => ?_)
  · skip
    have h10 := oi (ifP q h9)
    subst h10
    exact GX_wd (by omega) (by omega) kk
  · skip
    exact absurd (ifN q h9) (by simp)
set_option maxRecDepth 100000 in
set_option maxHeartbeats 4000000 in
theorem LW_19 {Γ : GT} {b Ls : Nat} {xs : Nat → Int32} (hC : CX Γ cL_law RL LAY 200 8) (hX : SX Γ b Ls xs) (hz : xzG Γ) (hst : (gln Γ).stackTraces = false) {k n i : Nat} {m1 m_ : MI} (hi : i + 5 < Ls) (hf : Lc_19 (xs (i + 1)) m1 = some m_) (hk : ∀ k' n', k' ≤ k + 1 → n' ≤ n + 6 → kX Γ k' n')
    (kk : GX Γ LAY (k + 1) (n + 6) [some (.ref b), some (.ref (gad Γ 0)), some (.ref (gad Γ 62)), some (.ref (gad Γ 92)), some (.int (nI i)), none, none, none] [] m_ 1247) : GX Γ LAY k n [some (.ref b), some (.ref (gad Γ 0)), some (.ref (gad Γ 62)), some (.ref (gad Γ 92)), some (.int (nI i)), none, none, none] [] m1 735 := by
  dsimp only [Lc_19] at hf
  refine GX_aload_n hC dL_law_735 rfl ?_
  refine GX_aload_n hC dL_law_736 rfl ?_
  refine GX_iload hC dL_law_737 rfl ?_
  refine GX_iconst hC 1 dL_law_739 rfl ?_
  refine GX_iadd hC dL_law_740 ?_
  refine GX_sld hC hX (i + 1) (nIp1 i) (by omega) dL_law_741 ?_
  obtain ⟨⟨r2, m3⟩, e4, h5⟩ := ob hf
  refine GX_callV_i (st := []) hC (C_N_game e4) okX9_game lkXL_100 ol_0 rfl rfl (Nat.le_of_ble_eq_true rfl) (Nat.le_of_ble_eq_true rfl) (hk _ _ (by omega) (by omega)) rfl (Nat.le_of_ble_eq_true rfl) dL_law_742 ?_
  refine GX_aload_n hC dL_law_745 rfl ?_
  refine GX_aload_n hC dL_law_746 rfl ?_
  refine GX_iload hC dL_law_747 rfl ?_
  refine GX_iconst hC 1 dL_law_749 rfl ?_
  refine GX_iadd hC dL_law_750 ?_
  refine GX_sld hC hX (i + 1) (nIp1 i) (by omega) dL_law_751 ?_
  obtain ⟨⟨r6, m7⟩, e8, h9⟩ := ob h5
  refine GX_callV_i (st := [.int r2]) hC (C_M_game e8) okX10_game lkXL_103 ol_62 rfl rfl (Nat.le_of_ble_eq_true rfl) (Nat.le_of_ble_eq_true rfl) (hk _ _ (by omega) (by omega)) rfl (Nat.le_of_ble_eq_true rfl) dL_law_752 ?_
  refine GX_icmp_eq_P hC 1247 dL_law_755 (by decide) (fun q => ?_) (fun q => ?_)
  · skip
    have h10 := oi (ifP q h9)
    subst h10
    exact GX_wd (by omega) (by omega) kk
  · skip
    exact absurd (ifN q h9) (by simp)
set_option maxRecDepth 100000 in
set_option maxHeartbeats 4000000 in
theorem LW_20 {Γ : GT} {b Ls : Nat} {xs : Nat → Int32} (hC : CX Γ cL_law RL LAY 200 8) (hX : SX Γ b Ls xs) (hz : xzG Γ) (hst : (gln Γ).stackTraces = false) {k n i : Nat} {m1 m_ : MI} (hi : i + 5 < Ls) (hf : Lc_20 m1 = some m_) (hk : ∀ k' n', k' ≤ k + 1 → n' ≤ n + 6 → kX Γ k' n')
    (kk : GX Γ LAY (k + 1) (n + 6) [some (.ref b), some (.ref (gad Γ 0)), some (.ref (gad Γ 62)), some (.ref (gad Γ 92)), some (.int (nI i)), none, none, none] [] m_ 1247) : GX Γ LAY k n [some (.ref b), some (.ref (gad Γ 0)), some (.ref (gad Γ 62)), some (.ref (gad Γ 92)), some (.int (nI i)), none, none, none] [] m1 760 := by
  dsimp only [Lc_20] at hf
  refine GX_aload_n hC dL_law_760 rfl ?_
  obtain ⟨⟨r2, m3⟩, e4, h5⟩ := ob hf
  refine GX_callV_i (st := []) hC (C_N_value e4) okX9_value lkXL_104 ol_0 rfl rfl (Nat.le_of_ble_eq_true rfl) (Nat.le_of_ble_eq_true rfl) (hk _ _ (by omega) (by omega)) rfl (Nat.le_of_ble_eq_true rfl) dL_law_761 ?_
  refine GX_aload_n hC dL_law_764 rfl ?_
  obtain ⟨⟨r6, m7⟩, e8, h9⟩ := ob h5
  refine GX_callV_i (st := [.int r2]) hC (C_M_value e8) okX10_value lkXL_107 ol_62 rfl rfl (Nat.le_of_ble_eq_true rfl) (Nat.le_of_ble_eq_true rfl) (hk _ _ (by omega) (by omega)) rfl (Nat.le_of_ble_eq_true rfl) dL_law_765 ?_
  refine GX_icmp_eq_P hC 1247 dL_law_768 (by decide) (fun q => ?_) (fun q => ?_)
  · skip
    have h10 := oi (ifP q h9)
    subst h10
    exact GX_wd (by omega) (by omega) kk
  · skip
    exact absurd (ifN q h9) (by simp)
set_option maxRecDepth 100000 in
set_option maxHeartbeats 4000000 in
theorem LW_21 {Γ : GT} {b Ls : Nat} {xs : Nat → Int32} (hC : CX Γ cL_law RL LAY 200 8) (hX : SX Γ b Ls xs) (hz : xzG Γ) (hst : (gln Γ).stackTraces = false) {k n i : Nat} {m1 m_ : MI} (hi : i + 5 < Ls) (hf : Lc_21 (xs (i + 1)) (xs (i + 2)) m1 = some m_) (hk : ∀ k' n', k' ≤ k + 1 → n' ≤ n + 6 → kX Γ k' n')
    (kk : GX Γ LAY (k + 1) (n + 6) [some (.ref b), some (.ref (gad Γ 0)), some (.ref (gad Γ 62)), some (.ref (gad Γ 92)), some (.int (nI i)), none, none, none] [] m_ 1247) : GX Γ LAY k n [some (.ref b), some (.ref (gad Γ 0)), some (.ref (gad Γ 62)), some (.ref (gad Γ 92)), some (.int (nI i)), none, none, none] [] m1 773 := by
  dsimp only [Lc_21] at hf
  refine GX_aload_n hC dL_law_773 rfl ?_
  refine GX_aload_n hC dL_law_774 rfl ?_
  refine GX_iload hC dL_law_775 rfl ?_
  refine GX_iconst hC 1 dL_law_777 rfl ?_
  refine GX_iadd hC dL_law_778 ?_
  refine GX_sld hC hX (i + 1) (nIp1 i) (by omega) dL_law_779 ?_
  refine GX_aload_n hC dL_law_780 rfl ?_
  refine GX_iload hC dL_law_781 rfl ?_
  refine GX_iconst hC 2 dL_law_783 rfl ?_
  refine GX_iadd hC dL_law_784 ?_
  refine GX_sld hC hX (i + 2) (nIp2 i) (by omega) dL_law_785 ?_
  obtain ⟨⟨r2, m3⟩, e4, h5⟩ := ob hf
  refine GX_callV_i (st := []) hC (C_N_deeds e4) okX9_deeds lkXL_108 ol_0 rfl rfl (Nat.le_of_ble_eq_true rfl) (Nat.le_of_ble_eq_true rfl) (hk _ _ (by omega) (by omega)) rfl (Nat.le_of_ble_eq_true rfl) dL_law_786 ?_
  refine GX_aload_n hC dL_law_789 rfl ?_
  refine GX_aload_n hC dL_law_790 rfl ?_
  refine GX_iload hC dL_law_791 rfl ?_
  refine GX_iconst hC 1 dL_law_793 rfl ?_
  refine GX_iadd hC dL_law_794 ?_
  refine GX_sld hC hX (i + 1) (nIp1 i) (by omega) dL_law_795 ?_
  refine GX_aload_n hC dL_law_796 rfl ?_
  refine GX_iload hC dL_law_797 rfl ?_
  refine GX_iconst hC 2 dL_law_799 rfl ?_
  refine GX_iadd hC dL_law_800 ?_
  refine GX_sld hC hX (i + 2) (nIp2 i) (by omega) dL_law_801 ?_
  obtain ⟨⟨r6, m7⟩, e8, h9⟩ := ob h5
  refine GX_callV_i (st := [.int r2]) hC (C_M_deeds e8) okX10_deeds lkXL_111 ol_62 rfl rfl (Nat.le_of_ble_eq_true rfl) (Nat.le_of_ble_eq_true rfl) (hk _ _ (by omega) (by omega)) rfl (Nat.le_of_ble_eq_true rfl) dL_law_802 ?_
  refine GX_icmp_eq_P hC 1247 dL_law_805 (by decide) (fun q => ?_) (fun q => ?_)
  · skip
    have h10 := oi (ifP q h9)
    subst h10
    exact GX_wd (by omega) (by omega) kk
  · skip
    exact absurd (ifN q h9) (by simp)
set_option maxRecDepth 100000 in
set_option maxHeartbeats 4000000 in
theorem LW_22 {Γ : GT} {b Ls : Nat} {xs : Nat → Int32} (hC : CX Γ cL_law RL LAY 200 8) (hX : SX Γ b Ls xs) (hz : xzG Γ) (hst : (gln Γ).stackTraces = false) {k n i : Nat} {m1 m_ : MI} (hi : i + 5 < Ls) (hf : Lc_22 (xs (i + 1)) (xs (i + 2)) m1 = some m_) (hk : ∀ k' n', k' ≤ k + 1 → n' ≤ n + 6 → kX Γ k' n')
    (kk : GX Γ LAY (k + 1) (n + 6) [some (.ref b), some (.ref (gad Γ 0)), some (.ref (gad Γ 62)), some (.ref (gad Γ 92)), some (.int (nI i)), none, none, none] [] m_ 1247) : GX Γ LAY k n [some (.ref b), some (.ref (gad Γ 0)), some (.ref (gad Γ 62)), some (.ref (gad Γ 92)), some (.int (nI i)), none, none, none] [] m1 810 := by
  dsimp only [Lc_22] at hf
  refine GX_aload_n hC dL_law_810 rfl ?_
  refine GX_aload_n hC dL_law_811 rfl ?_
  refine GX_iload hC dL_law_812 rfl ?_
  refine GX_iconst hC 1 dL_law_814 rfl ?_
  refine GX_iadd hC dL_law_815 ?_
  refine GX_sld hC hX (i + 1) (nIp1 i) (by omega) dL_law_816 ?_
  refine GX_aload_n hC dL_law_817 rfl ?_
  refine GX_iload hC dL_law_818 rfl ?_
  refine GX_iconst hC 2 dL_law_820 rfl ?_
  refine GX_iadd hC dL_law_821 ?_
  refine GX_sld hC hX (i + 2) (nIp2 i) (by omega) dL_law_822 ?_
  obtain ⟨⟨r2, m3⟩, e4, h5⟩ := ob hf
  refine GX_callV_i (st := []) hC (C_N_lots e4) okX9_lots lkXL_112 ol_0 rfl rfl (Nat.le_of_ble_eq_true rfl) (Nat.le_of_ble_eq_true rfl) (hk _ _ (by omega) (by omega)) rfl (Nat.le_of_ble_eq_true rfl) dL_law_823 ?_
  refine GX_aload_n hC dL_law_826 rfl ?_
  refine GX_aload_n hC dL_law_827 rfl ?_
  refine GX_iload hC dL_law_828 rfl ?_
  refine GX_iconst hC 1 dL_law_830 rfl ?_
  refine GX_iadd hC dL_law_831 ?_
  refine GX_sld hC hX (i + 1) (nIp1 i) (by omega) dL_law_832 ?_
  refine GX_aload_n hC dL_law_833 rfl ?_
  refine GX_iload hC dL_law_834 rfl ?_
  refine GX_iconst hC 2 dL_law_836 rfl ?_
  refine GX_iadd hC dL_law_837 ?_
  refine GX_sld hC hX (i + 2) (nIp2 i) (by omega) dL_law_838 ?_
  obtain ⟨⟨r6, m7⟩, e8, h9⟩ := ob h5
  refine GX_callV_i (st := [.int r2]) hC (C_M_lots e8) okX10_lots lkXL_115 ol_62 rfl rfl (Nat.le_of_ble_eq_true rfl) (Nat.le_of_ble_eq_true rfl) (hk _ _ (by omega) (by omega)) rfl (Nat.le_of_ble_eq_true rfl) dL_law_839 ?_
  refine GX_icmp_eq_P hC 1247 dL_law_842 (by decide) (fun q => ?_) (fun q => ?_)
  · skip
    have h10 := oi (ifP q h9)
    subst h10
    exact GX_wd (by omega) (by omega) kk
  · skip
    exact absurd (ifN q h9) (by simp)
set_option maxRecDepth 100000 in
set_option maxHeartbeats 4000000 in
theorem LW_23 {Γ : GT} {b Ls : Nat} {xs : Nat → Int32} (hC : CX Γ cL_law RL LAY 200 8) (hX : SX Γ b Ls xs) (hz : xzG Γ) (hst : (gln Γ).stackTraces = false) {k n i : Nat} {m1 m_ : MI} (hi : i + 5 < Ls) (hf : Lc_23 m1 = some m_) (hk : ∀ k' n', k' ≤ k + 1 → n' ≤ n + 6 → kX Γ k' n')
    (kk : GX Γ LAY (k + 1) (n + 6) [some (.ref b), some (.ref (gad Γ 0)), some (.ref (gad Γ 62)), some (.ref (gad Γ 92)), some (.int (nI i)), none, none, none] [] m_ 1247) : GX Γ LAY k n [some (.ref b), some (.ref (gad Γ 0)), some (.ref (gad Γ 62)), some (.ref (gad Γ 92)), some (.int (nI i)), none, none, none] [] m1 847 := by
  dsimp only [Lc_23] at hf
  refine GX_aload_n hC dL_law_847 rfl ?_
  obtain ⟨⟨r2, m3⟩, e4, h5⟩ := ob hf
  refine GX_callV_i (st := []) hC (C_N_image e4) okX9_image lkXL_116 ol_0 rfl rfl (Nat.le_of_ble_eq_true rfl) (Nat.le_of_ble_eq_true rfl) (hk _ _ (by omega) (by omega)) rfl (Nat.le_of_ble_eq_true rfl) dL_law_848 ?_
  refine GX_aload_n hC dL_law_851 rfl ?_
  obtain ⟨⟨r6, m7⟩, e8, h9⟩ := ob h5
  refine GX_callV_i (st := [.int r2]) hC (C_M_image e8) okX10_image lkXL_119 ol_62 rfl rfl (Nat.le_of_ble_eq_true rfl) (Nat.le_of_ble_eq_true rfl) (hk _ _ (by omega) (by omega)) rfl (Nat.le_of_ble_eq_true rfl) dL_law_852 ?_
  refine GX_icmp_eq_P hC 1247 dL_law_855 (by decide) (fun q => ?_) (fun q => ?_)
  · skip
    have h10 := oi (ifP q h9)
    subst h10
    exact GX_wd (by omega) (by omega) kk
  · skip
    exact absurd (ifN q h9) (by simp)
