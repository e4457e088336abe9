theorem lkX9_299 : Cond.methodLink RX9 299 yX8_isPlace ∈ TT := TT_at 962 (by decide +kernel) (by decide +kernel)
theorem okX9_element : okV yX9_element cX9_element 4 (some .long) 2 := ⟨TT_at 943 (by decide +kernel) (by decide +kernel), TT_at 1 (by decide +kernel) (by decide +kernel), TT_at 941 (by decide +kernel) (by decide +kernel), TT_at 942 (by decide +kernel) (by decide +kernel), ⟨by decide +kernel, by decide +kernel⟩, by decide +kernel⟩
theorem lkL_7 : Cond.methodLink RL 7 yX9_element ∈ TT := TT_at 940 (by decide +kernel) (by decide +kernel)
theorem xw_clL13 : Cond.classLink RL 13 tIAE ∈ TT := TT_at 938 (by decide +kernel) (by decide +kernel)
theorem xw_clL15 : Cond.classLink RL 15 tISE ∈ TT := TT_at 939 (by decide +kernel) (by decide +kernel)
def N_elemP (d i : Int32) (μ : MI) : Option (Nat × Int64) := onN (N_shelfAt d) (some (1, 0)) fun s => if μ.1 s 0 = 2 then (Shelf_isPlace s i μ).bind fun b => if b then (Shelf_at s i μ).bind fun v => some (0, v.toInt64) else some (2, 0) else some (2, 0)
set_option maxRecDepth 100000 in
set_option maxHeartbeats 4000000 in
theorem X_element {l : Launch} (hst : l.stackTraces = false) {d i : Int32} {μ : MI} {o : Nat × Int64} (hf : N_elemP d i μ = some o) (dC : Nat → ClassId) (dI : Nat → Nat → Nat) (Y : Nat → ClassId) (ad : Nat → Nat) (A : Nat → Prop) :
    vx_Met l yX9_element (Cond.code yX9_element cX9_element 4 (some .long) :: TT) (rmI 8 1 6) (va_Pc (.ref (ad 0) :: [.int d, .int i]) (xP dC dI Y ad A LAY μ))
      (va_Ql (fun v (_ : Unit) => (0, v) = o) (fun _ U => va_P (dC, dI) vwCl (wsOf ad Y LAY μ) U.heap) A) (vx_X (fun _ : Unit => True) (fun E _ U => ((o.1 = 1 ∧ E = tIAE) ∨ (o.1 = 2 ∧ E = tISE)) ∧ va_P (dC, dI) vwCl (wsOf ad Y LAY μ) U.heap) A) 1 6 A := by
  refine vx_ofW (cc := cX9_element) (maxL := 4) (ret := some .long) (by decide +kernel) rfl ?_
  intro p e s m args0 below meth c s₁ B hml hex hv
  obtain ⟨rfl, ⟨hP, hK, hA⟩, hz⟩ := hv
  have hts0 := atoms_spec (ws := Cond.code yX9_element cX9_element 4 (some .long) :: TT) B.pre
  have hts : ∀ w ∈ TT, w.before (.ref (ad 0) :: [.int d, .int i] : List Value).toArray s = true := fun w hw => hts0 w (List.mem_cons_of_mem _ hw)
  have hown : s.vm.findClass RX9 = some m.cls := findClass_of_methodNamed B.named
  have hl := lv_entry (.ref (ad 0) :: [.int d, .int i]) (n := 4) (Nat.le_of_ble_eq_true rfl)
  rw [lg_entry_eq]
  have hl : lvh (lg_sl (.ref (ad 0) :: [.int d, .int i]) ++ List.replicate (4 - (lg_sl (.ref (ad 0) :: [.int d, .int i])).length) Slot.unset).toArray 4 [some (.ref (ad 0)), some (.int d), some (.int i), none] := hl
  obtain ⟨Q, hQ⟩ : ∃ Q, Q = vx_MQ below (va_Ql (fun v (_ : Unit) => (0, v) = o) (fun _ U => va_P (dC, dI) vwCl (wsOf ad Y LAY μ) U.heap) A) (vx_X (fun _ : Unit => True) (fun E _ U => ((o.1 = 1 ∧ E = tIAE) ∨ (o.1 = 2 ∧ E = tISE)) ∧ va_P (dC, dI) vwCl (wsOf ad Y LAY μ) U.heap) A) (.ref (ad 0) :: [.int d, .int i] : List Value).toArray s 1 6 A := ⟨_, rfl⟩
  rw [← hQ]
  obtain ⟨Γ, hΓ⟩ : ∃ Γ : GT, Γ = (p, l, e, rmI 8 1 6, s, m, (.ref (ad 0) :: [.int d, .int i] : List Value).toArray, below, meth, c, Q, s.heap, dC, dI, Y, ad, A, 4) := ⟨_, rfl⟩
  have hC : CX Γ cX9_element RX9 LAY 8 4 := by rw [hΓ]; exact ⟨B.exec, B.bytes, hml, hown, hts, hK, hA, Nat.le_refl _, Nat.le_refl _, rfl⟩
  have had : gad Γ = ad := by rw [hΓ]
  have hk : kX Γ 0 0 := by rw [hΓ]; exact ⟨by decide, by decide⟩
  have hret : ∀ (lv : List (Option Value)) (v : Int64), (0, v) = o → GX Γ LAY 0 0 lv [.long v] μ 65 := by
    intro lv v hv
    rw [hΓ]
    intro H locs ls hP hS hl
    rw [hQ]
    exact W.widen (by omega) (by omega) (vx_ret (W.lret B.exec B.bytes B.returns (fun t9 ht9 hW9 => ⟨⟨v, (), rfl, hv, by show va_P _ _ _ t9.heap; rw [ht9]; exact hP⟩, hS.F ht9⟩) hS.2.2 dX9_element_65 B.notSynchronized))
  have hA1 : o.1 = 1 → ∀ lv, GX Γ LAY 0 0 lv [] μ 10 := by
    intro hn lv
    rw [hΓ]
    intro H locs ls hP hS hl
    rw [hQ]
    obtain ⟨z1, z2, z3, z4, -, ⟨a2, z6⟩, -⟩ := hz
    exact vx_throwSW (own := RX9) (cls := tIAE) (names := xnm) (ik := 287) (is := 289) (ic := 291) (mc := 1) (ms := 6) B.exec B.bytes hst hown (by decide +kernel) (by decide +kernel) (hts _ xw_cl9a) (hts _ xw_iA) z6 (XA_hat X2_in XA2_good hts z3) (by decide +kernel) z1 z2 hS (by rw [hml]; exact hl.1)
      dX9_element_10 dX9_element_13 dX9_element_14 dX9_element_17 dX9_element_20 (fun x hx => (hex x hx).elim) (by decide) (by decide) (by decide) (by decide) B.notSynchronized
      (fun t9 _ h1 h2 => ⟨(), trivial, ⟨Or.inl ⟨hn, rfl⟩, va_P_same hP h2⟩, va_F_same hS h1 h2⟩) hS.2.2 (by decide) (by decide)
  have hA2 : o.1 = 2 → ∀ lv, GX Γ LAY 0 0 lv [] μ 29 := by
    intro hn lv
    rw [hΓ]
    intro H locs ls hP hS hl
    rw [hQ]
    obtain ⟨z1, z2, z3, z4, -, -, ⟨a2, z6⟩, -⟩ := hz
    exact vx_throwSW (own := RX9) (cls := tISE) (names := xnm) (ik := 294) (is := 296) (ic := 298) (mc := 1) (ms := 6) B.exec B.bytes hst hown (by decide +kernel) (by decide +kernel) (hts _ xw_cl9) (hts _ xw_iS) z6 (XA_hat X3_in XA3_good hts z3) (by decide +kernel) z1 z2 hS (by rw [hml]; exact hl.1)
      dX9_element_29 dX9_element_32 dX9_element_33 dX9_element_36 dX9_element_39 (fun x hx => (hex x hx).elim) (by decide) (by decide) (by decide) (by decide) B.notSynchronized
      (fun t9 _ h1 h2 => ⟨(), trivial, ⟨Or.inr ⟨hn, rfl⟩, va_P_same hP h2⟩, va_F_same hS h1 h2⟩) hS.2.2 (by decide) (by decide)
  have hA3 : o.1 = 2 → ∀ lv, GX Γ LAY 0 0 lv [] μ 48 := by
    intro hn lv
    rw [hΓ]
    intro H locs ls hP hS hl
    rw [hQ]
    obtain ⟨z1, z2, z3, z4, -, -, -, ⟨a2, z6⟩⟩ := hz
    exact vx_throwSW (own := RX9) (cls := tISE) (names := xnm) (ik := 294) (is := 302) (ic := 298) (mc := 1) (ms := 6) B.exec B.bytes hst hown (by decide +kernel) (by decide +kernel) (hts _ xw_cl9) (hts _ xw_iS) z6 (XA_hat X3_in XA3_good hts z3) (by decide +kernel) z1 z2 hS (by rw [hml]; exact hl.1)
      dX9_element_48 dX9_element_51 dX9_element_52 dX9_element_55 dX9_element_58 (fun x hx => (hex x hx).elim) (by decide) (by decide) (by decide) (by decide) B.notSynchronized
      (fun t9 _ h1 h2 => ⟨(), trivial, ⟨Or.inr ⟨hn, rfl⟩, va_P_same hP h2⟩, va_F_same hS h1 h2⟩) hS.2.2 (by decide) (by decide)
  have key : GX Γ LAY 0 0 [some (.ref (gad Γ 0)), some (.int d), some (.int i), none] [] μ 0 := by
    unfold N_elemP at hf
    refine GX_aload_n hC dX9_element_0 rfl ?_
    refine GX_iload_n hC dX9_element_1 rfl ?_
    rcases hs : N_shelfAt d with _ | s
    · have h := oi (onNn hs hf)
      refine GX_callV_n (st := []) hC (C_N_shelfAt_n hs) okX9_shelfAt lkX9_75 ol_0 rfl rfl (Nat.le_of_ble_eq_true rfl) (Nat.le_of_ble_eq_true rfl) hk rfl (Nat.le_of_ble_eq_true rfl) dX9_element_2 ?_
      refine GX_astore_nN hC [some (.ref (gad Γ 0)), some (.int d), some (.int i), some .null] dX9_element_5 (by decide) rfl rfl ?_
      refine GX_aload_nN hC dX9_element_6 rfl ?_
      refine GX_ifnonnullN hC dX9_element_7 ?_
      exact hA1 (by rw [← h]) _
    · have h := onNs hs hf
      have hsh := isShelf_at hs
      refine GX_callV_r (st := []) hC (C_N_shelfAt_s hs) okX9_shelfAt lkX9_75 ol_0 rfl rfl (Nat.le_of_ble_eq_true rfl) (Nat.le_of_ble_eq_true rfl) hk rfl (Nat.le_of_ble_eq_true rfl) dX9_element_2 ?_
      refine GX_astore_n hC [some (.ref (gad Γ 0)), some (.int d), some (.int i), some (.ref (gad Γ s))] dX9_element_5 (by decide) rfl rfl ?_
      refine GX_aload_n hC dX9_element_6 rfl ?_
      refine GX_ifnonnull hC 21 dX9_element_7 (by decide) ?_
      refine GX_aload_n hC dX9_element_21 rfl ?_
      refine GX_getI hC fkX9_270 (olShelf hsh) rfl dX9_element_22 ?_
      refine GX_iconst hC 2 dX9_element_25 rfl ?_
      refine GX_icmp_eq_P hC 40 dX9_element_26 (by decide) (fun q => ?_) (fun q => ?_)
      · have h2 := ifP q h
        obtain ⟨b, e1, h3⟩ := ob h2
        refine GX_aload_n hC dX9_element_40 rfl ?_
        refine GX_iload_n hC dX9_element_41 rfl ?_
        refine GX_callV_i (st := []) hC (C_Shelf_isPlace hsh e1) okX8_isPlace lkX9_299 (olShelf hsh) rfl rfl (Nat.le_of_ble_eq_true rfl) (Nat.le_of_ble_eq_true rfl) hk rfl (Nat.le_of_ble_eq_true rfl) dX9_element_42 ?_
        refine GX_ifb_ne hC 59 dX9_element_45 (by decide) (fun q2 => ?_) (fun q2 => ?_)
        · have h4 := ifT q2 h3
          obtain ⟨v, e2, h5⟩ := ob h4
          refine GX_aload_n hC dX9_element_59 rfl ?_
          refine GX_iload_n hC dX9_element_60 rfl ?_
          refine GX_callV_i (st := []) hC (C_Shelf_at hsh e2) okX8_at lkX9_182 (olShelf hsh) rfl rfl (Nat.le_of_ble_eq_true rfl) (Nat.le_of_ble_eq_true rfl) hk rfl (Nat.le_of_ble_eq_true rfl) dX9_element_61 ?_
          refine GX_i2l hC dX9_element_64 ?_
          exact hret _ _ (oi h5)
        · have h4 := oi (ifF q2 h3)
          exact hA3 (by rw [← h4]) _
      · have h2 := oi (ifN q h)
        exact hA2 (by rw [← h2]) _
  rw [had] at key
  rw [hΓ] at key
  exact key s.heap [] _ hP va_S.rf hl
set_option maxRecDepth 100000 in
set_option maxHeartbeats 4000000 in
theorem X_Lelement {l : Launch} (hst : l.stackTraces = false) {p0 p1 : Int32} {μ : MI} {o : Nat × Int64} (hf : N_elemP p0 p1 μ = some o) (r0 : Int32) (μ' : MI) (h0 : o.1 = 0 → r0 = 0 ∧ μ' = sl μ 92 0 o.2) (h1 : o.1 = 1 → r0 = 1 ∧ μ' = μ) (h2 : o.1 = 2 → r0 = 2 ∧ μ' = μ) (dC : Nat → ClassId) (dI : Nat → Nat → Nat) (Y : Nat → ClassId) (ad : Nat → Nat) (A : Nat → Prop) :
    Met l yL_element (Cond.codeWith yL_element cL_element 5 (some .int) [(0, 9, 12, 13), (0, 9, 16, 15)] :: TT) (rmI 10 1 6) (va_Pc [.ref (ad 0), .int p0, .int p1, .ref (ad 92)] (xP dC dI Y ad A LAY μ)) (cnQ dC dI Y ad A LAY (some (.int r0)) μ') 1 6 A := by
  refine vx_plain ?_
  refine vx_ofWH (cc := cL_element) (maxL := 5) (ret := some .int) (hh := [(0, 9, 12, 13), (0, 9, 16, 15)]) (by decide +kernel) rfl ?_
  intro p e s m args0 below meth c s₁ B hml hv
  obtain ⟨rfl, ⟨hP, hK, hA⟩, hz⟩ := hv
  have hts0 := atoms_spec (ws := Cond.codeWith yL_element cL_element 5 (some .int) [(0, 9, 12, 13), (0, 9, 16, 15)] :: TT) B.pre
  have hts : ∀ w ∈ TT, w.before ([.ref (ad 0), .int p0, .int p1, .ref (ad 92)] : List Value).toArray s = true := fun w hw => hts0 w (List.mem_cons_of_mem _ hw)
  have hown : s.vm.findClass RL = some m.cls := findClass_of_methodNamed B.named
  have hex := vx_table (x := yL_element) B (hts0 _ List.mem_cons_self)
  have hl := lv_entry [.ref (ad 0), .int p0, .int p1, .ref (ad 92)] (n := 5) (Nat.le_of_ble_eq_true rfl)
  rw [lg_entry_eq]
  have hl : lvh (lg_sl [.ref (ad 0), .int p0, .int p1, .ref (ad 92)] ++ List.replicate (5 - (lg_sl [.ref (ad 0), .int p0, .int p1, .ref (ad 92)]).length) Slot.unset).toArray 5 [some (.ref (ad 0)), some (.int p0), some (.int p1), some (.ref (ad 92)), none] := hl
  obtain ⟨Q, hQ⟩ : ∃ Q, Q = vx_MQ below (cnQ dC dI Y ad A LAY (some (.int r0)) μ') (fun _ _ _ => False) ([.ref (ad 0), .int p0, .int p1, .ref (ad 92)] : List Value).toArray s 1 6 A := ⟨_, rfl⟩
  rw [← hQ]
  obtain ⟨Γ, hΓ⟩ : ∃ Γ : GT, Γ = (p, l, e, rmI 10 1 6, s, m, ([.ref (ad 0), .int p0, .int p1, .ref (ad 92)] : List Value).toArray, below, meth, c, Q, s.heap, dC, dI, Y, ad, A, 5) := ⟨_, rfl⟩
  have hC : CX Γ cL_element RL LAY 10 5 := by rw [hΓ]; exact ⟨B.exec, B.bytes, hml, hown, hts, hK, hA, Nat.le_refl _, Nat.le_refl _, rfl⟩
  have had : gad Γ = ad := by rw [hΓ]
  have hret : ∀ (lv : List (Option Value)) (pc : Nat) (r : Int32) (m1 : MI), r = r0 → m1 = μ' → decode cL_element pc = .ok (.ireturn, 1) → GX Γ LAY 1 6 lv [.int r] m1 pc := by
    intro lv pc r m1 e1 e2 hd
    subst e1; subst e2
    rw [hΓ]
    intro H locs ls hP hS hl
    rw [hQ]
    exact vx_ret (W.iret B.exec B.bytes B.returns (fun t9 ht9 hW9 => ⟨rfl, by rw [ht9]; exact hP, hS.F ht9⟩) hS.2.2 hd B.notSynchronized)
  have g8 : ∀ v : Int64, (0, v) = o → GX Γ LAY 1 6 [some (.ref (gad Γ 0)), some (.int p0), some (.int p1), some (.ref (gad Γ 92)), none] [.long v, .int 0, .ref (gad Γ 92)] μ 8 := by
    intro v hv
    obtain ⟨q1, q2⟩ := h0 (by rw [← hv])
    refine GX_last hC al_92 ⟨by decide, by decide⟩ dL_element_8 ?_
    refine GX_goto hC 20 dL_element_9 (by decide) ?_
    refine GX_iconst hC 0 dL_element_20 rfl ?_
    refine hret _ _ _ _ q1.symm ?_ dL_element_21
    rw [q2, ← hv]; rfl
  have g12 : o.1 = 1 → ∀ q : Nat, GX Γ LAY 1 6 [some (.ref (gad Γ 0)), some (.int p0), some (.int p1), some (.ref (gad Γ 92)), none] [.ref q] μ 12 := by
    intro ho q
    obtain ⟨q1, q2⟩ := h1 ho
    refine GX_astore hC [some (.ref (gad Γ 0)), some (.int p0), some (.int p1), some (.ref (gad Γ 92)), some (.ref q)] dL_element_12 (by decide) rfl rfl ?_
    refine GX_iconst hC 1 dL_element_14 rfl ?_
    exact hret _ _ _ _ q1.symm q2.symm dL_element_15
  have g16 : o.1 = 2 → ∀ q : Nat, GX Γ LAY 1 6 [some (.ref (gad Γ 0)), some (.int p0), some (.int p1), some (.ref (gad Γ 92)), none] [.ref q] μ 16 := by
    intro ho q
    obtain ⟨q1, q2⟩ := h2 ho
    refine GX_astore hC [some (.ref (gad Γ 0)), some (.int p0), some (.int p1), some (.ref (gad Γ 92)), some (.ref q)] dL_element_16 (by decide) rfl rfl ?_
    refine GX_iconst hC 2 dL_element_18 rfl ?_
    exact hret _ _ _ _ q1.symm q2.symm dL_element_19
  have g5 : GX Γ LAY 0 0 [some (.ref (gad Γ 0)), some (.int p0), some (.int p1), some (.ref (gad Γ 92)), none] [.int p1, .int p0, .ref (gad Γ 0), .int 0, .ref (gad Γ 92)] μ 5 := by
    rw [had] at g8 g12 g16 ⊢
    rw [hΓ] at g8 g12 g16 ⊢
    intro H locs ls hP hS hl
    obtain ⟨o1, o2, o3, o4, o5, o6⟩ := okX9_element
    have hws : ∀ w ∈ Cond.code yX9_element cX9_element 4 (some .long) :: TT, ∀ (a' : Array Value) (U : State), s.WarmedH U.vm → w.before a' U = true := fun w hw a' U hW => by
      rcases List.mem_cons.mp hw with rfl | hw
      · exact TT_pay hts o1 a' U hW
      · exact TT_pay hts hw a' U hW
    refine vx_calll (vx_runV (C := RX9) (As := [.int p0, .int p1]) (rest := [.int 0, .ref (ad 92)]) ⟨B.exec, B.bytes, hml, hown, hts⟩ (X_element hst hf dC dI Y ad A)
      ⟨⟨rfl, rfl, by decide, by decide, hws, List.mem_cons_self, hts _ o1, hts _ o2, o5, fun sig h => by rw [h] at o6; exact (Option.some.inj o6).symm, hts _ lkL_7⟩, hts _ o3, hts _ o4⟩
      ⟨xP_blind, va_recv hK hP (rfl : vwCl[9]? = some (RX9, TX9, 11)) (ws_at ol_0), fun U hU hW => ⟨rfl, ⟨by rw [hU]; exact hP, va_K.moved hW.alike hK, hA⟩, xz.go hW hU hS hz⟩⟩ rfl rfl (hl.1.trans rfl) rfl (lv_room (Nat.le_of_ble_eq_true rfl)) dL_element_5 ⟨by decide, by decide⟩)
      hS (fun _ _ h => h) (fun _ h => h) (fun _ _ h => h) ?_ ?_
    · intro E ce q9 u t9 H1 locs1 ht9 hal hp hB hz1 hk1 hS1 hce hcv hcl
      obtain ⟨hE, hP1⟩ := hB
      rw [ht9] at hP1
      rcases hE with ⟨ho, rfl⟩ | ⟨ho, rfl⟩
      · refine vx_catch (own := RL) (name := tIAE) (E := tIAE) hown [] ⟨0, 9, 12, 13⟩ [⟨0, 9, 16, 15⟩] (by rw [hex]; rfl) (fun z hz => by cases hz) (by decide) (by decide) (hts _ xw_clL13) (X_all hts hz.2.2.1 _ tIAE_cast) hce hcv hcl ?_
        exact g12 ho q9 H1 locs1 ls hP1 hS1 hl
      · refine vx_catch (own := RL) (name := tISE) (E := tISE) hown [⟨0, 9, 12, 13⟩] ⟨0, 9, 16, 15⟩ [] (by rw [hex]; rfl) (fun z h => ?_) (by decide) (by decide) (hts _ xw_clL15) (X_all hts hz.2.2.1 _ tISE_cast) hce hcv hcl ?_
        · rcases List.mem_singleton.mp h with rfl
          exact Or.inr ⟨by decide, tIAE, hts _ xw_clL13, hz.2.2.2.1⟩
        · exact g16 ho q9 H1 locs1 ls hP1 hS1 hl
    · intro v u t9 H1 locs1 ht9 hal hp hB hz1 hk1 hS1
      rw [ht9] at hB
      exact g8 v hp H1 locs1 ls hB hS1 hl
  have key : GX Γ LAY 0 0 [some (.ref (gad Γ 0)), some (.int p0), some (.int p1), some (.ref (gad Γ 92)), none] [] μ 0 := by
    refine GX_aload_n hC dL_element_0 rfl ?_
    refine GX_iconst hC 0 dL_element_1 rfl ?_
    refine GX_aload_n hC dL_element_2 rfl ?_
    refine GX_iload_n hC dL_element_3 rfl ?_
    refine GX_iload_n hC dL_element_4 rfl ?_
    exact g5
  rw [had] at key
  rw [hΓ] at key
  exact key s.heap [] _ hP va_S.rf hl
