theorem vx_plain {l : Launch} {y : MethodName} {ws : List Cond} {rm : Room} {Pc : Array Value → State → Prop} {Qc : Array Value → State → Outcome → State → Prop} {mc ms : Nat} {free : Addr → Prop} (h : vx_Met l y ws rm Pc Qc (fun _ _ _ => False) mc ms free) : Met l y ws rm Pc Qc mc ms free := by
  have e : vx_Q Qc (fun _ _ _ => False) mc ms free = fun a st o t => Qc a st o t ∧ ∃ L, FrameEnd st o t L mc ms ∧ ∀ q ∈ L, free q.base := by
    funext a st o t
    apply propext
    constructor
    · rintro (h | ⟨q, -, E, ce, L, h1, -⟩)
      · exact h
      · exact h1.elim
    · exact Or.inl
  unfold vx_Met at h
  rw [e] at h
  exact h
def lev_fn : Nat := 1
set_option maxRecDepth 100000 in
set_option maxHeartbeats 4000000 in
theorem X_caughtFailure {l : Launch} (hst : l.stackTraces = false) {t : Nat} (ht : isMove t) {μ : MI} {r : Int32} (hf : Move_failureNumber t μ = some r) (r0 : Int32) (hr1 : thr t μ → r0 = r) (hr2 : ¬ thr t μ → r0 = -15) (dC : Nat → ClassId) (dI : Nat → Nat → Nat) (Y : Nat → ClassId) (ad : Nat → Nat) (A : Nat → Prop) :
    Met l yX9_caughtFailure (Cond.codeWith yX9_caughtFailure cX9_caughtFailure 2 (some .int) [(0, 4, 7, 294)] :: TT) (rmI 8 1 6) (va_Pc [.ref (ad t)] (xP dC dI Y ad A LAY μ)) (cnQ dC dI Y ad A LAY (some (.int r0)) μ) 1 6 A := by
  refine vx_plain ?_
  refine vx_ofWH (cc := cX9_caughtFailure) (maxL := 2) (ret := some .int) (hh := [(0, 4, 7, 294)]) (by decide +kernel) rfl ?_
  intro p e s m args0 below meth c s₁ B hml hv
  obtain ⟨rfl, ⟨hP, hK, hA⟩, hz⟩ := hv
  have hts0 := atoms_spec (ws := Cond.codeWith yX9_caughtFailure cX9_caughtFailure 2 (some .int) [(0, 4, 7, 294)] :: TT) B.pre
  have hts : ∀ w ∈ TT, w.before [Value.ref (ad t)].toArray s = true := fun w hw => hts0 w (List.mem_cons_of_mem _ hw)
  have hown : s.vm.findClass RX9 = some m.cls := findClass_of_methodNamed B.named
  have hex := vx_table (x := yX9_caughtFailure) B (hts0 _ List.mem_cons_self)
  have hl := lv_entry ([.ref (ad t)]) (n := 2) (Nat.le_of_ble_eq_true rfl)
  rw [lg_entry_eq]
  have hl : lvh (lg_sl [.ref (ad t)] ++ List.replicate (2 - (lg_sl [.ref (ad t)]).length) Slot.unset).toArray 2 [some (.ref (ad t)), none] := hl
  obtain ⟨Q, hQ⟩ : ∃ Q, Q = vx_MQ below (cnQ dC dI Y ad A LAY (some (.int r0)) μ) (fun _ _ _ => False) [Value.ref (ad t)].toArray s 1 6 A := ⟨_, rfl⟩
  rw [← hQ]
  obtain ⟨Γ, hΓ⟩ : ∃ Γ : GT, Γ = (p, l, e, rmI 8 1 6, s, m, [Value.ref (ad t)].toArray, below, meth, c, Q, s.heap, dC, dI, Y, ad, A, 2) := ⟨_, rfl⟩
  have hC : CX Γ cX9_caughtFailure RX9 LAY 8 2 := by rw [hΓ]; exact ⟨B.exec, B.bytes, hml, hown, hts, hK, hA, Nat.le_refl _, Nat.le_refl _, rfl⟩
  have had : gad Γ = ad := by rw [hΓ]
  have hk : ∀ k n, k ≤ 1 → n ≤ 6 → kX Γ k n := by rw [hΓ]; exact fun k n h1 h2 => ⟨h1, h2⟩
  have hret : ∀ (lv : List (Option Value)) (pc : Nat), decode cX9_caughtFailure pc = .ok (.ireturn, 1) → GX Γ LAY 1 6 lv [.int r0] μ pc := by
    intro lv pc hd
    rw [hΓ]
    intro H locs ls hP hS hl
    rw [hQ]
    exact vx_ret (W.iret B.exec B.bytes B.returns (fun t9 ht9 hW9 => ⟨rfl, by rw [ht9]; exact hP, hS.F ht9⟩) hS.2.2 hd B.notSynchronized)
  have h13 : ¬ thr t μ → ∀ lv, GX Γ LAY 1 6 lv [] μ 13 := by
    intro hn lv
    refine GX_bipush hC (-15) dX9_caughtFailure_13 rfl ?_
    rw [← hr2 hn]
    exact hret _ _ dX9_caughtFailure_15
  have h7 : thr t μ → ∀ q : Nat, GX Γ LAY 1 6 [some (.ref (gad Γ t)), none] [.ref q] μ 7 := by
    intro hn q
    refine GX_astore_n hC [some (.ref (gad Γ t)), some (.ref q)] dX9_caughtFailure_7 (by decide) rfl rfl ?_
    refine GX_aload_n hC dX9_caughtFailure_8 rfl ?_
    refine GX_callV_i (st := []) hC (C_Move_failureNumber ht hf) okX4_failureNumber lkX9_350 (olMove ht) rfl rfl (Nat.le_of_ble_eq_true rfl) (Nat.le_of_ble_eq_true rfl) (hk 1 6 (by decide) (by decide)) rfl (Nat.le_of_ble_eq_true rfl) dX9_caughtFailure_9 ?_
    rw [← hr1 hn]
    exact hret _ _ dX9_caughtFailure_12
  have h1 : GX Γ LAY 0 0 [some (.ref (gad Γ t)), none] [.ref (gad Γ t)] μ 1 := by
    rw [had] at h7 ⊢
    rw [hΓ] at h7 h13 ⊢
    intro H locs ls hP hS hl
    obtain ⟨o1, o2, o3, o4, o5, o6⟩ := okX4_throwFailure
    have hws : ∀ w ∈ Cond.code yX4_throwFailure cX4_throwFailure 1 none :: TT, ∀ (a' : Array Value) (U : State), s.WarmedH U.vm → w.before a' U = true := fun w hw a' U hW => by
      rcases List.mem_cons.mp hw with rfl | hw
      · exact TT_pay hts o1 a' U hW
      · exact TT_pay hts hw a' U hW
    refine vx_callv (vx_runV (C := RX4) (As := []) (rest := []) ⟨B.exec, B.bytes, hml, hown, hts⟩ (X_throwFailure hst ht dC dI Y ad A)
      ⟨⟨rfl, rfl, by decide, by decide, hws, List.mem_cons_self, hts _ o1, hts _ o2, o5, fun sig h => by rw [h] at o6; exact (Option.some.inj o6).symm, hts _ lkX9_347⟩, hts _ o3, hts _ o4⟩
      ⟨xP_blind, va_recv hK hP (rfl : vwCl[4]? = some (RX4, TX4, 5)) (ws_at (olMove ht)), fun U hU hW => ⟨rfl, ⟨by rw [hU]; exact hP, va_K.moved hW.alike hK, hA⟩, xz.go hW hU hS hz⟩⟩ rfl rfl (hl.1.trans rfl) rfl (lv_room (Nat.le_of_ble_eq_true rfl)) dX9_caughtFailure_1 ⟨by decide, by decide⟩)
      hS (fun _ _ h => h) (fun _ h => h) (fun _ _ h => h) ?_ ?_
    · intro E ce q9 u t9 H1 locs1 ht9 hal hp hB hz1 hk1 hS1 hce hcv hcl
      obtain ⟨rfl, hP1⟩ := hB
      rw [ht9] at hP1
      refine vx_catch (own := RX9) (name := tISE) (E := tISE) hown [] ⟨0, 4, 7, 294⟩ [] (by rw [hex]; rfl) (fun z hz => by cases hz) (by decide) (by decide) (hts _ xw_cl9) (X_all hts hz.2.2.1 _ tISE_cast) hce hcv hcl ?_
      exact h7 hp q9 H1 locs1 ls hP1 hS1 hl
    · intro u t9 H1 locs1 ht9 hal hp hB hz1 hk1 hS1
      rw [ht9] at hB
      have h4 : GX (p, l, e, rmI 8 1 6, s, m, [Value.ref (ad t)].toArray, below, meth, c, Q, s.heap, dC, dI, Y, ad, A, 2) LAY 1 6 [some (.ref (ad t)), none] [] μ 4 := by
        refine GX_goto (cc := cX9_caughtFailure) (own := RX9) (d := 8) (nL0 := 2) (by rw [hΓ] at hC; exact hC) 13 dX9_caughtFailure_4 (by decide) ?_
        exact h13 hp _
      exact h4 H1 locs1 ls hB hS1 hl
  have key : GX Γ LAY 0 0 [some (.ref (gad Γ t)), none] [] μ 0 := GX_aload_n hC dX9_caughtFailure_0 rfl h1
  rw [had] at key
  rw [hΓ] at key
  exact key s.heap [] _ hP va_S.rf hl
