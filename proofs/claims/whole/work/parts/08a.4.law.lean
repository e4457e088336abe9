set_option maxRecDepth 100000 in
set_option maxHeartbeats 4000000 in
theorem LW_24 {Γ : GT} {b Ls : Nat} {xs : Nat → Int32} (hC : CX Γ cL_law RL LAY 200 8) (hX : SX Γ b Ls xs) (hz : xzG Γ) (hst : (gln Γ).stackTraces = false) {k n i : Nat} {m1 m_ : MI} (hi : i + 5 < Ls) (hf : Lc_24 m1 = some m_) (hk : ∀ k' n', k' ≤ k + 1 → n' ≤ n + 6 → kX Γ k' n')
    (kk : GX Γ LAY (k + 1) (n + 6) [some (.ref b), some (.ref (gad Γ 0)), some (.ref (gad Γ 62)), some (.ref (gad Γ 92)), some (.int (nI i)), none, none, none] [] m_ 1247) : GX Γ LAY k n [some (.ref b), some (.ref (gad Γ 0)), some (.ref (gad Γ 62)), some (.ref (gad Γ 92)), some (.int (nI i)), none, none, none] [] m1 860 := by
  dsimp only [Lc_24] at hf
  refine GX_aload_n hC dL_law_860 rfl ?_
  obtain ⟨⟨r2, m3⟩, e4, h5⟩ := ob hf
  refine GX_callV_i (st := []) hC (C_N_restore e4) okX9_restore lkXL_120 ol_0 rfl rfl (Nat.le_of_ble_eq_true rfl) (Nat.le_of_ble_eq_true rfl) (hk _ _ (by omega) (by omega)) rfl (Nat.le_of_ble_eq_true rfl) dL_law_861 ?_
  refine GX_aload_n hC dL_law_864 rfl ?_
  obtain ⟨⟨r6, m7⟩, e8, h9⟩ := ob h5
  refine GX_callV_i (st := [.int r2]) hC (C_M_restore e8) okX10_restore lkXL_123 ol_62 rfl rfl (Nat.le_of_ble_eq_true rfl) (Nat.le_of_ble_eq_true rfl) (hk _ _ (by omega) (by omega)) rfl (Nat.le_of_ble_eq_true rfl) dL_law_865 ?_
  refine GX_icmp_eq_P hC 1247 dL_law_868 (by decide) (fun q => ?_) (fun q => ?_)
  · skip
    have h10 := oi (ifP q h9)
    subst h10
    exact GX_wd (by omega) (by omega) kk
  · skip
    exact absurd (ifN q h9) (by simp)
set_option maxRecDepth 100000 in
set_option maxHeartbeats 4000000 in
theorem LW_25 {Γ : GT} {b Ls : Nat} {xs : Nat → Int32} (hC : CX Γ cL_law RL LAY 200 8) (hX : SX Γ b Ls xs) (hz : xzG Γ) (hst : (gln Γ).stackTraces = false) {k n i : Nat} {m1 m_ : MI} (hi : i + 5 < Ls) (hf : Lc_25 (xs (i + 1)) m1 = some m_) (hk : ∀ k' n', k' ≤ k + 1 → n' ≤ n + 6 → kX Γ k' n')
    (kk : GX Γ LAY (k + 1) (n + 6) [some (.ref b), some (.ref (gad Γ 0)), some (.ref (gad Γ 62)), some (.ref (gad Γ 92)), some (.int (nI i)), none, none, none] [] m_ 1247) : GX Γ LAY k n [some (.ref b), some (.ref (gad Γ 0)), some (.ref (gad Γ 62)), some (.ref (gad Γ 92)), some (.int (nI i)), none, none, none] [] m1 873 := by
  dsimp only [Lc_25] at hf
  refine GX_aload_n hC dL_law_873 rfl ?_
  refine GX_aload_n hC dL_law_874 rfl ?_
  refine GX_iload hC dL_law_875 rfl ?_
  refine GX_iconst hC 1 dL_law_877 rfl ?_
  refine GX_iadd hC dL_law_878 ?_
  refine GX_sld hC hX (i + 1) (nIp1 i) (by omega) dL_law_879 ?_
  obtain ⟨r2, e3, h4⟩ := ob hf
  refine GX_callV_i (st := []) hC (C_N_count e3) okX9_count lkXL_124 ol_0 rfl rfl (Nat.le_of_ble_eq_true rfl) (Nat.le_of_ble_eq_true rfl) (hk _ _ (by omega) (by omega)) rfl (Nat.le_of_ble_eq_true rfl) dL_law_880 ?_
  refine GX_aload_n hC dL_law_883 rfl ?_
  refine GX_aload_n hC dL_law_884 rfl ?_
  refine GX_iload hC dL_law_885 rfl ?_
  refine GX_iconst hC 1 dL_law_887 rfl ?_
  refine GX_iadd hC dL_law_888 ?_
  refine GX_sld hC hX (i + 1) (nIp1 i) (by omega) dL_law_889 ?_
  obtain ⟨⟨r5, m6⟩, e7, h8⟩ := ob h4
  refine GX_callV_i (st := [.int r2]) hC (C_M_count e7) okX10_count lkXL_127 ol_62 rfl rfl (Nat.le_of_ble_eq_true rfl) (Nat.le_of_ble_eq_true rfl) (hk _ _ (by omega) (by omega)) rfl (Nat.le_of_ble_eq_true rfl) dL_law_890 ?_
  refine GX_icmp_eq_P hC 1247 dL_law_893 (by decide) (fun q => ?_) (fun q => ?_)
  · skip
    have h9 := oi (ifP q h8)
    subst h9
    exact GX_wd (by omega) (by omega) kk
  · skip
    exact absurd (ifN q h8) (by simp)
set_option maxRecDepth 100000 in
set_option maxHeartbeats 4000000 in
theorem LW_26 {Γ : GT} {b Ls : Nat} {xs : Nat → Int32} (hC : CX Γ cL_law RL LAY 200 8) (hX : SX Γ b Ls xs) (hz : xzG Γ) (hst : (gln Γ).stackTraces = false) {k n i : Nat} {m1 m_ : MI} (hi : i + 5 < Ls) (hf : Lc_26 (xs (i + 1)) (xs (i + 2)) (xs (i + 3)) (xs (i + 4)) m1 = some m_) (hk : ∀ k' n', k' ≤ k + 1 → n' ≤ n + 6 → kX Γ k' n')
    (kk : GX Γ LAY (k + 1) (n + 6) [some (.ref b), some (.ref (gad Γ 0)), some (.ref (gad Γ 62)), some (.ref (gad Γ 92)), some (.int (nI i)), none, none, none] [] m_ 1247) : GX Γ LAY k n [some (.ref b), some (.ref (gad Γ 0)), some (.ref (gad Γ 62)), some (.ref (gad Γ 92)), some (.int (nI i)), none, none, none] [] m1 898 := by
  dsimp only [Lc_26] at hf
  refine GX_aload_n hC dL_law_898 rfl ?_
  refine GX_aload_n hC dL_law_899 rfl ?_
  refine GX_iload hC dL_law_900 rfl ?_
  refine GX_iconst hC 1 dL_law_902 rfl ?_
  refine GX_iadd hC dL_law_903 ?_
  refine GX_sld hC hX (i + 1) (nIp1 i) (by omega) dL_law_904 ?_
  refine GX_aload_n hC dL_law_905 rfl ?_
  refine GX_iload hC dL_law_906 rfl ?_
  refine GX_iconst hC 2 dL_law_908 rfl ?_
  refine GX_iadd hC dL_law_909 ?_
  refine GX_sld hC hX (i + 2) (nIp2 i) (by omega) dL_law_910 ?_
  refine GX_aload_n hC dL_law_911 rfl ?_
  refine GX_iload hC dL_law_912 rfl ?_
  refine GX_iconst hC 3 dL_law_914 rfl ?_
  refine GX_iadd hC dL_law_915 ?_
  refine GX_sld hC hX (i + 3) (nIp3 i) (by omega) dL_law_916 ?_
  refine GX_aload_n hC dL_law_917 rfl ?_
  refine GX_iload hC dL_law_918 rfl ?_
  refine GX_iconst hC 4 dL_law_920 rfl ?_
  refine GX_iadd hC dL_law_921 ?_
  refine GX_sld hC hX (i + 4) (nIp4 i) (by omega) dL_law_922 ?_
  obtain ⟨⟨r2, m3⟩, e4, h5⟩ := ob hf
  refine GX_callV_i (st := []) hC (C_N_keep e4) okX9_keep lkXL_128 ol_0 rfl rfl (Nat.le_of_ble_eq_true rfl) (Nat.le_of_ble_eq_true rfl) (hk _ _ (by omega) (by omega)) rfl (Nat.le_of_ble_eq_true rfl) dL_law_923 ?_
  refine GX_aload_n hC dL_law_926 rfl ?_
  refine GX_aload_n hC dL_law_927 rfl ?_
  refine GX_iload hC dL_law_928 rfl ?_
  refine GX_iconst hC 1 dL_law_930 rfl ?_
  refine GX_iadd hC dL_law_931 ?_
  refine GX_sld hC hX (i + 1) (nIp1 i) (by omega) dL_law_932 ?_
  refine GX_aload_n hC dL_law_933 rfl ?_
  refine GX_iload hC dL_law_934 rfl ?_
  refine GX_iconst hC 2 dL_law_936 rfl ?_
  refine GX_iadd hC dL_law_937 ?_
  refine GX_sld hC hX (i + 2) (nIp2 i) (by omega) dL_law_938 ?_
  refine GX_aload_n hC dL_law_939 rfl ?_
  refine GX_iload hC dL_law_940 rfl ?_
  refine GX_iconst hC 3 dL_law_942 rfl ?_
  refine GX_iadd hC dL_law_943 ?_
  refine GX_sld hC hX (i + 3) (nIp3 i) (by omega) dL_law_944 ?_
  refine GX_aload_n hC dL_law_945 rfl ?_
  refine GX_iload hC dL_law_946 rfl ?_
  refine GX_iconst hC 4 dL_law_948 rfl ?_
  refine GX_iadd hC dL_law_949 ?_
  refine GX_sld hC hX (i + 4) (nIp4 i) (by omega) dL_law_950 ?_
  obtain ⟨⟨r6, m7⟩, e8, h9⟩ := ob h5
  refine GX_callV_i (st := [.int r2]) hC (C_M_keep e8) okX10_keep lkXL_132 ol_62 rfl rfl (Nat.le_of_ble_eq_true rfl) (Nat.le_of_ble_eq_true rfl) (hk _ _ (by omega) (by omega)) rfl (Nat.le_of_ble_eq_true rfl) dL_law_951 ?_
  refine GX_icmp_eq_P hC 1247 dL_law_954 (by decide) (fun q => ?_) (fun q => ?_)
  · skip
    have h10 := oi (ifP q h9)
    subst h10
    exact GX_wd (by omega) (by omega) kk
  · skip
    exact absurd (ifN q h9) (by simp)
set_option maxRecDepth 100000 in
set_option maxHeartbeats 4000000 in
theorem LW_27 {Γ : GT} {b Ls : Nat} {xs : Nat → Int32} (hC : CX Γ cL_law RL LAY 200 8) (hX : SX Γ b Ls xs) (hz : xzG Γ) (hst : (gln Γ).stackTraces = false) {k n i : Nat} {m1 m_ : MI} (hi : i + 5 < Ls) (hf : Lc_27 (xs (i + 1)) (xs (i + 2)) (xs (i + 3)) m1 = some m_) (hk : ∀ k' n', k' ≤ k + 1 → n' ≤ n + 6 → kX Γ k' n')
    (kk : GX Γ LAY (k + 1) (n + 6) [some (.ref b), some (.ref (gad Γ 0)), some (.ref (gad Γ 62)), some (.ref (gad Γ 92)), some (.int (nI i)), none, none, none] [] m_ 1247) : GX Γ LAY k n [some (.ref b), some (.ref (gad Γ 0)), some (.ref (gad Γ 62)), some (.ref (gad Γ 92)), some (.int (nI i)), none, none, none] [] m1 959 := by
  dsimp only [Lc_27] at hf
  refine GX_aload_n hC dL_law_959 rfl ?_
  refine GX_aload_n hC dL_law_960 rfl ?_
  refine GX_iload hC dL_law_961 rfl ?_
  refine GX_iconst hC 1 dL_law_963 rfl ?_
  refine GX_iadd hC dL_law_964 ?_
  refine GX_sld hC hX (i + 1) (nIp1 i) (by omega) dL_law_965 ?_
  refine GX_aload_n hC dL_law_966 rfl ?_
  refine GX_iload hC dL_law_967 rfl ?_
  refine GX_iconst hC 2 dL_law_969 rfl ?_
  refine GX_iadd hC dL_law_970 ?_
  refine GX_sld hC hX (i + 2) (nIp2 i) (by omega) dL_law_971 ?_
  refine GX_aload_n hC dL_law_972 rfl ?_
  refine GX_iload hC dL_law_973 rfl ?_
  refine GX_iconst hC 3 dL_law_975 rfl ?_
  refine GX_iadd hC dL_law_976 ?_
  refine GX_sld hC hX (i + 3) (nIp3 i) (by omega) dL_law_977 ?_
  obtain ⟨⟨r2, m3⟩, e4, h5⟩ := ob hf
  refine GX_callV_i (st := []) hC (C_N_row e4) okX9_row lkXL_133 ol_0 rfl rfl (Nat.le_of_ble_eq_true rfl) (Nat.le_of_ble_eq_true rfl) (hk _ _ (by omega) (by omega)) rfl (Nat.le_of_ble_eq_true rfl) dL_law_978 ?_
  refine GX_aload_n hC dL_law_981 rfl ?_
  refine GX_aload_n hC dL_law_982 rfl ?_
  refine GX_iload hC dL_law_983 rfl ?_
  refine GX_iconst hC 1 dL_law_985 rfl ?_
  refine GX_iadd hC dL_law_986 ?_
  refine GX_sld hC hX (i + 1) (nIp1 i) (by omega) dL_law_987 ?_
  refine GX_aload_n hC dL_law_988 rfl ?_
  refine GX_iload hC dL_law_989 rfl ?_
  refine GX_iconst hC 2 dL_law_991 rfl ?_
  refine GX_iadd hC dL_law_992 ?_
  refine GX_sld hC hX (i + 2) (nIp2 i) (by omega) dL_law_993 ?_
  refine GX_aload_n hC dL_law_994 rfl ?_
  refine GX_iload hC dL_law_995 rfl ?_
  refine GX_iconst hC 3 dL_law_997 rfl ?_
  refine GX_iadd hC dL_law_998 ?_
  refine GX_sld hC hX (i + 3) (nIp3 i) (by omega) dL_law_999 ?_
  obtain ⟨⟨r6, m7⟩, e8, h9⟩ := ob h5
  refine GX_callV_i (st := [.int r2]) hC (C_M_row e8) okX10_row lkXL_137 ol_62 rfl rfl (Nat.le_of_ble_eq_true rfl) (Nat.le_of_ble_eq_true rfl) (hk _ _ (by omega) (by omega)) rfl (Nat.le_of_ble_eq_true rfl) dL_law_1000 ?_
  refine GX_icmp_eq_P hC 1247 dL_law_1003 (by decide) (fun q => ?_) (fun q => ?_)
  · skip
    have h10 := oi (ifP q h9)
    subst h10
    exact GX_wd (by omega) (by omega) kk
  · skip
    exact absurd (ifN q h9) (by simp)
set_option maxRecDepth 100000 in
set_option maxHeartbeats 4000000 in
theorem LW_28 {Γ : GT} {b Ls : Nat} {xs : Nat → Int32} (hC : CX Γ cL_law RL LAY 200 8) (hX : SX Γ b Ls xs) (hz : xzG Γ) (hst : (gln Γ).stackTraces = false) {k n i : Nat} {m1 m_ : MI} (hi : i + 5 < Ls) (hf : Lc_28 (xs (i + 1)) (xs (i + 2)) (xs (i + 3)) m1 = some m_) (hk : ∀ k' n', k' ≤ k + 1 → n' ≤ n + 6 → kX Γ k' n')
    (kk : GX Γ LAY (k + 1) (n + 6) [some (.ref b), some (.ref (gad Γ 0)), some (.ref (gad Γ 62)), some (.ref (gad Γ 92)), some (.int (nI i)), none, none, none] [] m_ 1247) : GX Γ LAY k n [some (.ref b), some (.ref (gad Γ 0)), some (.ref (gad Γ 62)), some (.ref (gad Γ 92)), some (.int (nI i)), none, none, none] [] m1 1008 := by
  dsimp only [Lc_28] at hf
  refine GX_aload_n hC dL_law_1008 rfl ?_
  refine GX_aload_n hC dL_law_1009 rfl ?_
  refine GX_iload hC dL_law_1010 rfl ?_
  refine GX_iconst hC 1 dL_law_1012 rfl ?_
  refine GX_iadd hC dL_law_1013 ?_
  refine GX_sld hC hX (i + 1) (nIp1 i) (by omega) dL_law_1014 ?_
  refine GX_aload_n hC dL_law_1015 rfl ?_
  refine GX_iload hC dL_law_1016 rfl ?_
  refine GX_iconst hC 2 dL_law_1018 rfl ?_
  refine GX_iadd hC dL_law_1019 ?_
  refine GX_sld hC hX (i + 2) (nIp2 i) (by omega) dL_law_1020 ?_
  refine GX_aload_n hC dL_law_1021 rfl ?_
  refine GX_iload hC dL_law_1022 rfl ?_
  refine GX_iconst hC 3 dL_law_1024 rfl ?_
  refine GX_iadd hC dL_law_1025 ?_
  refine GX_sld hC hX (i + 3) (nIp3 i) (by omega) dL_law_1026 ?_
  obtain ⟨⟨r2, m3⟩, e4, h5⟩ := ob hf
  refine GX_callV_i (st := []) hC (C_N_put e4) okX9_put lkXL_138 ol_0 rfl rfl (Nat.le_of_ble_eq_true rfl) (Nat.le_of_ble_eq_true rfl) (hk _ _ (by omega) (by omega)) rfl (Nat.le_of_ble_eq_true rfl) dL_law_1027 ?_
  refine GX_aload_n hC dL_law_1030 rfl ?_
  refine GX_aload_n hC dL_law_1031 rfl ?_
  refine GX_iload hC dL_law_1032 rfl ?_
  refine GX_iconst hC 1 dL_law_1034 rfl ?_
  refine GX_iadd hC dL_law_1035 ?_
  refine GX_sld hC hX (i + 1) (nIp1 i) (by omega) dL_law_1036 ?_
  refine GX_aload_n hC dL_law_1037 rfl ?_
  refine GX_iload hC dL_law_1038 rfl ?_
  refine GX_iconst hC 2 dL_law_1040 rfl ?_
  refine GX_iadd hC dL_law_1041 ?_
  refine GX_sld hC hX (i + 2) (nIp2 i) (by omega) dL_law_1042 ?_
  refine GX_aload_n hC dL_law_1043 rfl ?_
  refine GX_iload hC dL_law_1044 rfl ?_
  refine GX_iconst hC 3 dL_law_1046 rfl ?_
  refine GX_iadd hC dL_law_1047 ?_
  refine GX_sld hC hX (i + 3) (nIp3 i) (by omega) dL_law_1048 ?_
  obtain ⟨⟨r6, m7⟩, e8, h9⟩ := ob h5
  refine GX_callV_i (st := [.int r2]) hC (C_M_put e8) okX10_put lkXL_141 ol_62 rfl rfl (Nat.le_of_ble_eq_true rfl) (Nat.le_of_ble_eq_true rfl) (hk _ _ (by omega) (by omega)) rfl (Nat.le_of_ble_eq_true rfl) dL_law_1049 ?_
  refine GX_icmp_eq_P hC 1247 dL_law_1052 (by decide) (fun q => ?_) (fun q => ?_)
  · skip
    have h10 := oi (ifP q h9)
    subst h10
    exact GX_wd (by omega) (by omega) kk
  · skip
    exact absurd (ifN q h9) (by simp)
set_option maxRecDepth 100000 in
set_option maxHeartbeats 4000000 in
theorem LW_30 {Γ : GT} {b Ls : Nat} {xs : Nat → Int32} (hC : CX Γ cL_law RL LAY 200 8) (hX : SX Γ b Ls xs) (hz : xzG Γ) (hst : (gln Γ).stackTraces = false) {k n i : Nat} {m1 m_ : MI} (hi : i + 5 < Ls) (hf : Lc_30 (xs (i + 1)) (xs (i + 2)) (xs (i + 3)) (xs (i + 4)) (xs (i + 5)) m1 = some m_) (hk : ∀ k' n', k' ≤ k + 1 → n' ≤ n + 6 → kX Γ k' n')
    (kk : GX Γ LAY (k + 1) (n + 6) [some (.ref b), some (.ref (gad Γ 0)), some (.ref (gad Γ 62)), some (.ref (gad Γ 92)), some (.int (nI i)), none, none, none] [] m_ 1247) : GX Γ LAY k n [some (.ref b), some (.ref (gad Γ 0)), some (.ref (gad Γ 62)), some (.ref (gad Γ 92)), some (.int (nI i)), none, none, none] [] m1 1124 := by
  dsimp only [Lc_30] at hf
  refine GX_aload_n hC dL_law_1124 rfl ?_
  refine GX_aload_n hC dL_law_1125 rfl ?_
  refine GX_iload hC dL_law_1126 rfl ?_
  refine GX_iconst hC 1 dL_law_1128 rfl ?_
  refine GX_iadd hC dL_law_1129 ?_
  refine GX_sld hC hX (i + 1) (nIp1 i) (by omega) dL_law_1130 ?_
  refine GX_aload_n hC dL_law_1131 rfl ?_
  refine GX_iload hC dL_law_1132 rfl ?_
  refine GX_iconst hC 2 dL_law_1134 rfl ?_
  refine GX_iadd hC dL_law_1135 ?_
  refine GX_sld hC hX (i + 2) (nIp2 i) (by omega) dL_law_1136 ?_
  refine GX_aload_n hC dL_law_1137 rfl ?_
  refine GX_iload hC dL_law_1138 rfl ?_
  refine GX_iconst hC 3 dL_law_1140 rfl ?_
  refine GX_iadd hC dL_law_1141 ?_
  refine GX_sld hC hX (i + 3) (nIp3 i) (by omega) dL_law_1142 ?_
  refine GX_aload_n hC dL_law_1143 rfl ?_
  refine GX_iload hC dL_law_1144 rfl ?_
  refine GX_iconst hC 4 dL_law_1146 rfl ?_
  refine GX_iadd hC dL_law_1147 ?_
  refine GX_sld hC hX (i + 4) (nIp4 i) (by omega) dL_law_1148 ?_
  refine GX_aload_n hC dL_law_1149 rfl ?_
  refine GX_iload hC dL_law_1150 rfl ?_
  refine GX_iconst hC 5 dL_law_1152 rfl ?_
  refine GX_iadd hC dL_law_1153 ?_
  refine GX_sld hC hX (i + 5) (nIp5 i) (by omega) dL_law_1154 ?_
  obtain ⟨⟨r2, m3⟩, e4, h5⟩ := ob hf
  refine GX_callV_i (st := []) hC (C_N_copy e4) okX9_copy lkXL_151 ol_0 rfl rfl (Nat.le_of_ble_eq_true rfl) (Nat.le_of_ble_eq_true rfl) (hk _ _ (by omega) (by omega)) rfl (Nat.le_of_ble_eq_true rfl) dL_law_1155 ?_
  refine GX_aload_n hC dL_law_1158 rfl ?_
  refine GX_aload_n hC dL_law_1159 rfl ?_
  refine GX_iload hC dL_law_1160 rfl ?_
  refine GX_iconst hC 1 dL_law_1162 rfl ?_
  refine GX_iadd hC dL_law_1163 ?_
  refine GX_sld hC hX (i + 1) (nIp1 i) (by omega) dL_law_1164 ?_
  refine GX_aload_n hC dL_law_1165 rfl ?_
  refine GX_iload hC dL_law_1166 rfl ?_
  refine GX_iconst hC 2 dL_law_1168 rfl ?_
  refine GX_iadd hC dL_law_1169 ?_
  refine GX_sld hC hX (i + 2) (nIp2 i) (by omega) dL_law_1170 ?_
  refine GX_aload_n hC dL_law_1171 rfl ?_
  refine GX_iload hC dL_law_1172 rfl ?_
  refine GX_iconst hC 3 dL_law_1174 rfl ?_
  refine GX_iadd hC dL_law_1175 ?_
  refine GX_sld hC hX (i + 3) (nIp3 i) (by omega) dL_law_1176 ?_
  refine GX_aload_n hC dL_law_1177 rfl ?_
  refine GX_iload hC dL_law_1178 rfl ?_
  refine GX_iconst hC 4 dL_law_1180 rfl ?_
  refine GX_iadd hC dL_law_1181 ?_
  refine GX_sld hC hX (i + 4) (nIp4 i) (by omega) dL_law_1182 ?_
  refine GX_aload_n hC dL_law_1183 rfl ?_
  refine GX_iload hC dL_law_1184 rfl ?_
  refine GX_iconst hC 5 dL_law_1186 rfl ?_
  refine GX_iadd hC dL_law_1187 ?_
  refine GX_sld hC hX (i + 5) (nIp5 i) (by omega) dL_law_1188 ?_
  obtain ⟨⟨r6, m7⟩, e8, h9⟩ := ob h5
  refine GX_callV_i (st := [.int r2]) hC (C_M_copy e8) okX10_copy lkXL_155 ol_62 rfl rfl (Nat.le_of_ble_eq_true rfl) (Nat.le_of_ble_eq_true rfl) (hk _ _ (by omega) (by omega)) rfl (Nat.le_of_ble_eq_true rfl) dL_law_1189 ?_
  refine GX_icmp_eq_P hC 1247 dL_law_1192 (by decide) (fun q => ?_) (fun q => ?_)
  · skip
    have h10 := oi (ifP q h9)
    subst h10
    exact GX_wd (by omega) (by omega) kk
  · skip
    exact absurd (ifN q h9) (by simp)
set_option maxRecDepth 100000 in
set_option maxHeartbeats 4000000 in
theorem LW_31 {Γ : GT} {b Ls : Nat} {xs : Nat → Int32} (hC : CX Γ cL_law RL LAY 200 8) (hX : SX Γ b Ls xs) (hz : xzG Γ) (hst : (gln Γ).stackTraces = false) {k n i : Nat} {m1 m_ : MI} (hi : i + 5 < Ls) (hf : Lc_31 (xs (i + 1)) m1 = some m_) (hk : ∀ k' n', k' ≤ k + 1 → n' ≤ n + 6 → kX Γ k' n')
    (kk : GX Γ LAY (k + 1) (n + 6) [some (.ref b), some (.ref (gad Γ 0)), some (.ref (gad Γ 62)), some (.ref (gad Γ 92)), some (.int (nI i)), none, none, none] [] m_ 1247) : GX Γ LAY k n [some (.ref b), some (.ref (gad Γ 0)), some (.ref (gad Γ 62)), some (.ref (gad Γ 92)), some (.int (nI i)), none, none, none] [] m1 1197 := by
  dsimp only [Lc_31] at hf
  refine GX_aload_n hC dL_law_1197 rfl ?_
  refine GX_aload_n hC dL_law_1198 rfl ?_
  refine GX_iload hC dL_law_1199 rfl ?_
  refine GX_iconst hC 1 dL_law_1201 rfl ?_
  refine GX_iadd hC dL_law_1202 ?_
  refine GX_sld hC hX (i + 1) (nIp1 i) (by omega) dL_law_1203 ?_
  obtain ⟨r2, e3, h4⟩ := ob hf
  refine GX_callV_i (st := []) hC (C_N_fee e3) okX9_fee lkXL_156 ol_0 rfl rfl (Nat.le_of_ble_eq_true rfl) (Nat.le_of_ble_eq_true rfl) (hk _ _ (by omega) (by omega)) rfl (Nat.le_of_ble_eq_true rfl) dL_law_1204 ?_
  refine GX_aload_n hC dL_law_1207 rfl ?_
  refine GX_aload_n hC dL_law_1208 rfl ?_
  refine GX_iload hC dL_law_1209 rfl ?_
  refine GX_iconst hC 1 dL_law_1211 rfl ?_
  refine GX_iadd hC dL_law_1212 ?_
  refine GX_sld hC hX (i + 1) (nIp1 i) (by omega) dL_law_1213 ?_
  obtain ⟨⟨r5, m6⟩, e7, h8⟩ := ob h4
  refine GX_callV_i (st := [.int r2]) hC (C_M_fee e7) okX10_fee lkXL_159 ol_62 rfl rfl (Nat.le_of_ble_eq_true rfl) (Nat.le_of_ble_eq_true rfl) (hk _ _ (by omega) (by omega)) rfl (Nat.le_of_ble_eq_true rfl) dL_law_1214 ?_
  refine GX_icmp_eq_P hC 1247 dL_law_1217 (by decide) (fun q => ?_) (fun q => ?_)
  · skip
    have h9 := oi (ifP q h8)
    subst h9
    exact GX_wd (by omega) (by omega) kk
  · skip
    exact absurd (ifN q h8) (by simp)
set_option maxRecDepth 100000 in
set_option maxHeartbeats 4000000 in
theorem LW_32 {Γ : GT} {b Ls : Nat} {xs : Nat → Int32} (hC : CX Γ cL_law RL LAY 200 8) (hX : SX Γ b Ls xs) (hz : xzG Γ) (hst : (gln Γ).stackTraces = false) {k n i : Nat} {m1 m_ : MI} (hi : i + 5 < Ls) (hf : Lc_32 (xs (i + 1)) m1 = some m_) (hk : ∀ k' n', k' ≤ k + 1 → n' ≤ n + 6 → kX Γ k' n')
    (kk : GX Γ LAY (k + 1) (n + 6) [some (.ref b), some (.ref (gad Γ 0)), some (.ref (gad Γ 62)), some (.ref (gad Γ 92)), some (.int (nI i)), none, none, none] [] m_ 1247) : GX Γ LAY k n [some (.ref b), some (.ref (gad Γ 0)), some (.ref (gad Γ 62)), some (.ref (gad Γ 92)), some (.int (nI i)), none, none, none] [] m1 1222 := by
  dsimp only [Lc_32] at hf
  refine GX_aload_n hC dL_law_1222 rfl ?_
  refine GX_aload_n hC dL_law_1223 rfl ?_
  refine GX_iload hC dL_law_1224 rfl ?_
  refine GX_iconst hC 1 dL_law_1226 rfl ?_
  refine GX_iadd hC dL_law_1227 ?_
  refine GX_sld hC hX (i + 1) (nIp1 i) (by omega) dL_law_1228 ?_
  obtain ⟨r2, e3, h4⟩ := ob hf
  refine GX_callT hC hz hst e3 (by decide) (hk _ _ (Nat.le_refl _) (Nat.le_refl _)) rfl (Nat.le_of_ble_eq_true rfl) dL_law_1229 ?_
  refine GX_aload_n hC dL_law_1232 rfl ?_
  refine GX_aload_n hC dL_law_1233 rfl ?_
  refine GX_iload hC dL_law_1234 rfl ?_
  refine GX_iconst hC 1 dL_law_1236 rfl ?_
  refine GX_iadd hC dL_law_1237 ?_
  refine GX_sld hC hX (i + 1) (nIp1 i) (by omega) dL_law_1238 ?_
  obtain ⟨⟨r5, m6⟩, e7, h8⟩ := ob h4
  refine GX_callV_i (st := [.int r2]) hC (C_M_toss e7) okX10_toss lkXL_163 ol_62 rfl rfl (Nat.le_of_ble_eq_true rfl) (Nat.le_of_ble_eq_true rfl) (hk _ _ (by omega) (by omega)) rfl (Nat.le_of_ble_eq_true rfl) dL_law_1239 ?_
  refine GX_icmp_eq_P hC 1247 dL_law_1242 (by decide) (fun q => ?_) (fun q => ?_)
  · skip
    have h9 := oi (ifP q h8)
    subst h9
    exact kk
  · skip
    exact absurd (ifN q h8) (by simp)
