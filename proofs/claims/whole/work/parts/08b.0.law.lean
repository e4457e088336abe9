theorem okX10_element : okV yX10_element cX10_element 4 (some .long) 2 := ⟨TT_at 1446 (by decide +kernel) (by decide +kernel), TT_at 11 (by decide +kernel) (by decide +kernel), TT_at 1444 (by decide +kernel) (by decide +kernel), TT_at 1445 (by decide +kernel) (by decide +kernel), ⟨by decide +kernel, by decide +kernel⟩, by decide +kernel⟩
theorem okX10_thrown : okV yX10_thrown cX10_thrown 1 (some .int) 0 := ⟨TT_at 1123 (by decide +kernel) (by decide +kernel), TT_at 11 (by decide +kernel) (by decide +kernel), TT_at 1121 (by decide +kernel) (by decide +kernel), TT_at 1122 (by decide +kernel) (by decide +kernel), ⟨by decide +kernel, by decide +kernel⟩, by decide +kernel⟩
theorem okL_element : Cond.codeWith yL_element cL_element 5 (some .int) [(0, 9, 12, 13), (0, 9, 16, 15)] ∈ TT ∧ Cond.initialized yL_element.cls ∈ TT ∧ Cond.static yL_element ∈ TT ∧ Cond.methodLink RL 142 yL_element ∈ TT ∧ (parseMethodDescriptor yL_element.desc).map (fun d => d.parameters.length) = some 4 := ⟨TT_at 937 (by decide +kernel) (by decide +kernel), TT_at 0 (by decide +kernel) (by decide +kernel), TT_at 936 (by decide +kernel) (by decide +kernel), TT_at 935 (by decide +kernel) (by decide +kernel), by decide +kernel⟩
theorem lkXL_147 : Cond.methodLink RL 147 yX10_element ∈ TT := TT_at 1443 (by decide +kernel) (by decide +kernel)
theorem lkXL_148 : Cond.methodLink RL 148 yX10_thrown ∈ TT := TT_at 1120 (by decide +kernel) (by decide +kernel)
def eM (o : Nat × Int64) (μ : MI) : MI := if o.1 = 0 then sl μ 92 0 o.2 else μ
def Lc_29 (a1 a2 : Int32) (μ : MI) : Option MI := (N_elemP a1 a2 μ).bind fun o => (M_element a1 a2 (eM o μ)).bind fun (v, m2) => (M_thrown m2).bind fun th => if th = nI o.1 then (if nI o.1 = 0 then (ldL 1 m2 92 0).bind fun w => if w = v then some m2 else none else some m2) else none
theorem elemP_le {d i : Int32} {μ : MI} {o : Nat × Int64} (h : N_elemP d i μ = some o) : o.1 = 0 ∨ o.1 = 1 ∨ o.1 = 2 := by
  unfold N_elemP at h
  rcases hs : N_shelfAt d with _ | s
  · have h := oi (onNn hs h); rw [← h]; exact Or.inr (Or.inl rfl)
  · have h := onNs hs h
    by_cases q : μ.1 s 0 = 2
    · have h := ifP q h
      obtain ⟨b, e1, h⟩ := ob h
      cases b
      · have h := oi h; rw [← h]; exact Or.inr (Or.inr rfl)
      · obtain ⟨v, e2, h⟩ := ob h
        have h := oi h; rw [← h]; exact Or.inl rfl
    · have h := oi (ifN q h); rw [← h]; exact Or.inr (Or.inr rfl)
theorem GX_callE {Γ : GT} {cc : ByteArray} {d nL0 k n : Nat} {lv : List (Option Value)} {st st0 : List Value} {μ : MI} {pc : Nat} {p0 p1 : Int32} {o : Nat × Int64} (hC : CX Γ cc RL LAY d nL0) (hz : xzG Γ) (hst : (gln Γ).stackTraces = false) (hf : N_elemP p0 p1 μ = some o)
    (hdd : 11 ≤ d) (hk : kX Γ (k + 1) (n + 6)) (hs0 : st0 = .ref (gad Γ 92) :: .int p1 :: .int p0 :: .ref (gad Γ 0) :: st) (hrm : (st.map fun v => v.category).sum ≤ 8) (hd : decode cc pc = .ok (.invokestatic 142, 3)) (kk : GX Γ LAY (k + 1) (n + 6) lv (.int (nI o.1) :: st) (eM o μ) (pc + 3)) : GX Γ LAY k n lv st0 μ pc := by
  subst hs0
  obtain ⟨p, l, e, R, s, m, args, below, meth, c, Q, H0, dC, dI, Y, ad, A, nL⟩ := Γ
  obtain ⟨hx, hb, hml, hown, hts, hK, hA, hd1, hd2, hnl⟩ := hC
  obtain ⟨hz, hH⟩ := hz
  subst hH
  intro H locs ls hP hS hl
  obtain ⟨o1, o2, o3, o4, o6⟩ := okL_element
  have hws : ∀ w ∈ Cond.codeWith yL_element cL_element 5 (some .int) [(0, 9, 12, 13), (0, 9, 16, 15)] :: TT, ∀ (a' : Array Value) (U : State), s.WarmedH U.vm → w.before a' U = true := fun w hw a' U hW => by
    rcases List.mem_cons.mp hw with rfl | hw
    · exact TT_pay hts o1 a' U hW
    · exact TT_pay hts hw a' U hW
  refine va_callG (v0 := some (.int (nI o.1))) (PP := va_P (dC, dI) vwCl (wsOf ad Y LAY (eM o μ))) (vx_runSW (As := [.ref (ad 0), .int p0, .int p1, .ref (ad 92)]) (rest := st) ⟨hx, hb, hml, hown, hts⟩ (X_Lelement hst hf (nI o.1) (eM o μ) (fun h => ⟨by rw [h]; rfl, by simp [eM, h]⟩) (fun h => ⟨by rw [h]; rfl, by simp [eM, h]⟩) (fun h => ⟨by rw [h]; rfl, by simp [eM, h]⟩) dC dI Y ad A)
    ⟨⟨rfl, rfl, by show 10 + 1 ≤ R.frames; omega, by show 8 + (5 + 11) + 100 * 10 ≤ R.locals; omega, hws, List.mem_cons_self⟩, hts _ o1, hts _ o2, ⟨by decide, by decide⟩, fun sig h => by rw [h] at o6; exact (Option.some.inj o6).symm, hts _ o4, hts _ o3⟩
    ⟨xP_blind, fun U hU hW => ⟨rfl, ⟨by rw [hU]; exact hP, va_K.moved hW.alike hK, hA⟩, xz.go hW hU hS hz⟩⟩ rfl rfl (hl.1.trans rfl) rfl (lv_room hrm) hd hk) (fun st oc t h => h) hS (fun H1 locs1 hP1 hS1 => kk H1 locs1 ls hP1 hS1 hl)
set_option maxRecDepth 100000 in
set_option maxHeartbeats 4000000 in
theorem LW_29 {Γ : GT} {b Ls : Nat} {xs : Nat → Int32} (hC : CX Γ cL_law RL LAY 200 8) (hX : SX Γ b Ls xs) (hz : xzG Γ) (hst : (gln Γ).stackTraces = false) {k n i : Nat} {m1 m_ : MI} (hi : i + 5 < Ls) (hf : Lc_29 (xs (i + 1)) (xs (i + 2)) m1 = some m_) (hk : ∀ k' n', k' ≤ k + 1 → n' ≤ n + 6 → kX Γ k' n')
    (kk : GX Γ LAY (k + 1) (n + 6) [some (.ref b), some (.ref (gad Γ 0)), some (.ref (gad Γ 62)), some (.ref (gad Γ 92)), some (.int (nI i)), none, none, none] [] m_ 1247) : GX Γ LAY k n [some (.ref b), some (.ref (gad Γ 0)), some (.ref (gad Γ 62)), some (.ref (gad Γ 92)), some (.int (nI i)), none, none, none] [] m1 1057 := by
  unfold Lc_29 at hf
  obtain ⟨o, e1, h1⟩ := ob hf
  obtain ⟨⟨v, m2⟩, e2, h2⟩ := ob h1
  obtain ⟨th, e3, h3⟩ := ob h2
  refine GX_aload_n hC dL_law_1057 rfl ?_
  refine GX_aload_n hC dL_law_1058 rfl ?_
  refine GX_iload hC dL_law_1059 rfl ?_
  refine GX_iconst hC 1 dL_law_1061 rfl ?_
  refine GX_iadd hC dL_law_1062 ?_
  refine GX_sld hC hX (i + 1) (nIp1 i) (by omega) dL_law_1063 ?_
  refine GX_aload_n hC dL_law_1064 rfl ?_
  refine GX_iload hC dL_law_1065 rfl ?_
  refine GX_iconst hC 2 dL_law_1067 rfl ?_
  refine GX_iadd hC dL_law_1068 ?_
  refine GX_sld hC hX (i + 2) (nIp2 i) (by omega) dL_law_1069 ?_
  refine GX_aload_n hC dL_law_1070 rfl ?_
  refine GX_callE (st := []) hC hz hst e1 (by decide) (hk _ _ (Nat.le_refl _) (Nat.le_refl _)) rfl (Nat.le_of_ble_eq_true rfl) dL_law_1071 ?_
  refine GX_istore hC [some (.ref b), some (.ref (gad Γ 0)), some (.ref (gad Γ 62)), some (.ref (gad Γ 92)), some (.int (nI i)), some (.int (nI o.1)), none, none] dL_law_1074 (by decide) rfl rfl ?_
  refine GX_aload_n hC dL_law_1076 rfl ?_
  refine GX_aload_n hC dL_law_1077 rfl ?_
  refine GX_iload hC dL_law_1078 rfl ?_
  refine GX_iconst hC 1 dL_law_1080 rfl ?_
  refine GX_iadd hC dL_law_1081 ?_
  refine GX_sld hC hX (i + 1) (nIp1 i) (by omega) dL_law_1082 ?_
  refine GX_aload_n hC dL_law_1083 rfl ?_
  refine GX_iload hC dL_law_1084 rfl ?_
  refine GX_iconst hC 2 dL_law_1086 rfl ?_
  refine GX_iadd hC dL_law_1087 ?_
  refine GX_sld hC hX (i + 2) (nIp2 i) (by omega) dL_law_1088 ?_
  refine GX_callV_l (st := []) hC (C_M_element e2) okX10_element lkXL_147 ol_62 rfl rfl (Nat.le_of_ble_eq_true rfl) (Nat.le_of_ble_eq_true rfl) (hk _ _ (Nat.le_refl _) (Nat.le_refl _)) rfl (Nat.le_of_ble_eq_true rfl) dL_law_1089 ?_
  refine GX_lstore hC [some (.ref b), some (.ref (gad Γ 0)), some (.ref (gad Γ 62)), some (.ref (gad Γ 92)), some (.int (nI i)), some (.int (nI o.1)), some (.long v), none] dL_law_1092 (by decide) rfl rfl rfl ?_
  refine GX_aload_n hC dL_law_1094 rfl ?_
  refine GX_callV_i (st := []) hC (C_M_thrown e3) okX10_thrown lkXL_148 ol_62 rfl rfl (Nat.le_of_ble_eq_true rfl) (Nat.le_of_ble_eq_true rfl) (hk _ _ (Nat.le_refl _) (Nat.le_refl _)) rfl (Nat.le_of_ble_eq_true rfl) dL_law_1095 ?_
  refine GX_iload hC dL_law_1098 rfl ?_
  have hend : m2 = m_ → GX Γ LAY (k + 1) (n + 6) [some (.ref b), some (.ref (gad Γ 0)), some (.ref (gad Γ 62)), some (.ref (gad Γ 92)), some (.int (nI i)), some (.int (nI o.1)), some (.long v), none] [] m2 1247 := fun h => by
    subst h; exact GX.le kk ⟨rfl, rfl, rfl, rfl, rfl, trivial⟩
  refine GX_icmp_eq_P hC 1105 dL_law_1100 (by decide) (fun q => ?_) (fun q => ?_)
  · have h4 := ifP q h3
    refine GX_iload hC dL_law_1105 rfl ?_
    refine GX_if_ne_N hC 1121 dL_law_1107 (by decide) (fun q2 => ?_) (fun q2 => ?_)
    · have h5 := ifP q2 h4
      obtain ⟨w, e4, h6⟩ := ob h5
      refine GX_aload_n hC dL_law_1110 rfl ?_
      refine GX_iconst hC 0 dL_law_1111 rfl ?_
      refine GX_ldL hC e4 al_92 dL_law_1112 ?_
      refine GX_lload hC dL_law_1113 rfl ?_
      refine GX_lc_eq_P hC 1121 dL_law_1115 dL_law_1116 (by decide) (fun q3 => ?_) (fun q3 => ?_)
      · refine GX_goto hC 1247 dL_law_1121 (by decide) ?_
        exact hend (oi (ifP q3 h6))
      · exact absurd (ifN q3 h6) (by simp)
    · have h5 := ifN q2 h4
      refine GX_goto hC 1247 dL_law_1121 (by decide) ?_
      exact hend (oi h5)
  · exact absurd (ifN q h3) (by simp)
