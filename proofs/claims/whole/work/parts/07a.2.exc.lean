set_option maxRecDepth 100000 in
set_option maxHeartbeats 4000000 in
theorem X_throwFailure {l : Launch} (hst : l.stackTraces = false) {t : Nat} (ht : isMove t) {μ : MI} (dC : Nat → ClassId) (dI : Nat → Nat → Nat) (Y : Nat → ClassId) (ad : Nat → Nat) (A : Nat → Prop) :
    vx_Met l yX4_throwFailure (Cond.code yX4_throwFailure cX4_throwFailure 1 none :: TT) (rmI 6 1 6) (va_Pc [.ref (ad t)] (xP dC dI Y ad A LAY μ))
      (va_Qv (fun _ : Unit => ¬ thr t μ) (fun _ U => va_P (dC, dI) vwCl (wsOf ad Y LAY μ) U.heap) A) (vx_X (fun _ : Unit => thr t μ) (fun E _ U => E = tISE ∧ va_P (dC, dI) vwCl (wsOf ad Y LAY μ) U.heap) A) 1 6 A := by
  refine vx_ofW (cc := cX4_throwFailure) (maxL := 1) (ret := none) (by decide +kernel) rfl ?_
  intro p e s m args0 below meth c s₁ B hml hex hv
  obtain ⟨rfl, ⟨hP, hK, hA⟩, hz⟩ := hv
  have hts0 := atoms_spec (ws := Cond.code yX4_throwFailure cX4_throwFailure 1 none :: TT) B.pre
  have hts : ∀ w ∈ TT, w.before [Value.ref (ad t)].toArray s = true := fun w hw => hts0 w (List.mem_cons_of_mem _ hw)
  have hown : s.vm.findClass RX4 = some m.cls := findClass_of_methodNamed B.named
  have hl := lv_entry ([.ref (ad t)]) (n := 1) (Nat.le_of_ble_eq_true rfl)
  rw [lg_entry_eq]
  have hl : lvh (lg_sl [.ref (ad t)] ++ List.replicate (1 - (lg_sl [.ref (ad t)]).length) Slot.unset).toArray 1 [some (.ref (ad t))] := hl
  obtain ⟨Q, hQ⟩ : ∃ Q, Q = vx_MQ below (va_Qv (fun _ : Unit => ¬ thr t μ) (fun _ U => va_P (dC, dI) vwCl (wsOf ad Y LAY μ) U.heap) A) (vx_X (fun _ : Unit => thr t μ) (fun E _ U => E = tISE ∧ va_P (dC, dI) vwCl (wsOf ad Y LAY μ) U.heap) A) [Value.ref (ad t)].toArray s 1 6 A := ⟨_, rfl⟩
  rw [← hQ]
  obtain ⟨Γ, hΓ⟩ : ∃ Γ : GT, Γ = (p, l, e, rmI 6 1 6, s, m, [Value.ref (ad t)].toArray, below, meth, c, Q, s.heap, dC, dI, Y, ad, A, 1) := ⟨_, rfl⟩
  have hC : CX Γ cX4_throwFailure RX4 LAY 6 1 := by rw [hΓ]; exact ⟨B.exec, B.bytes, hml, hown, hts, hK, hA, Nat.le_refl _, Nat.le_refl _, rfl⟩
  have had : gad Γ = ad := by rw [hΓ]
  have hend : ¬ thr t μ → GX Γ LAY 0 0 [some (.ref (gad Γ t))] [] μ 26 := by
    intro hn
    rw [hΓ]
    intro H locs ls hP hS hl
    rw [hQ]
    exact W.widen (by omega) (by omega) (vx_ret (W.vret B.exec B.bytes B.returns (fun t9 ht9 hW9 => ⟨⟨(), rfl, hn, by show va_P _ _ _ t9.heap; rw [ht9]; exact hP⟩, hS.F ht9⟩) hS.2.2 dX4_throwFailure_26 B.notSynchronized))
  have hthrow : thr t μ → GX Γ LAY 0 0 [some (.ref (gad Γ t))] [] μ 16 := by
    intro hn
    rw [hΓ]
    intro H locs ls hP hS hl
    rw [hQ]
    obtain ⟨z1, z2, z3, z4, ⟨a1, z5⟩, -⟩ := hz
    exact vx_throwS (own := RX4) (cls := tISE) (names := xnm) (ik := 70) (is := 72) (ic := 74) (mc := 1) (ms := 6) B.exec B.bytes hst hown (by decide +kernel) (by decide +kernel) (hts _ xw_cl4) (hts _ xw_iS) z5 (XA_hat X1_in XA1_good hts z3) (by decide +kernel) z1 z2 hS (by rw [hml]; exact hl.1)
      dX4_throwFailure_16 dX4_throwFailure_19 dX4_throwFailure_20 dX4_throwFailure_22 dX4_throwFailure_25 (fun x hx => (hex x hx).elim) (by decide) (by decide) (by decide) (by decide) B.notSynchronized
      (fun t9 _ h1 h2 => ⟨(), hn, ⟨rfl, va_P_same hP h2⟩, va_F_same hS h1 h2⟩) hS.2.2 (by decide) (by decide)
  have key : GX Γ LAY 0 0 [some (.ref (gad Γ t))] [] μ 0 := by
    refine GX_aload_n hC dX4_throwFailure_0 rfl ?_
    refine GX_getI hC fkX4_9 (olMove ht) rfl dX4_throwFailure_1 ?_
    refine GX_bipush hC 6 dX4_throwFailure_4 rfl ?_
    refine GX_icmp_eq_N hC 26 dX4_throwFailure_6 (by decide) (fun q => ?_) (fun q => ?_)
    · refine GX_aload_n hC dX4_throwFailure_9 rfl ?_
      refine GX_getI hC fkX4_24 (olMove ht) rfl dX4_throwFailure_10 ?_
      refine GX_if_eq_N hC 26 dX4_throwFailure_13 (by decide) (fun q2 => ?_) (fun q2 => ?_)
      · exact hthrow ⟨q, q2⟩
      · exact hend (fun h => q2 h.2)
    · exact hend (fun h => q h.1)
  rw [had] at key
  rw [hΓ] at key
  exact key s.heap [] _ hP va_S.rf hl
