/-! ===== methods that call such ones ===== -/
def N_tossP (d : Int32) (μ : MI) : Option Int32 := onN (N_shelfAt d) (some (-1)) fun s => (Shelf_refusalUnless s 1 μ).bind fun r => if r ≠ 0 then some r else (Move_failureNumber (s + 1) μ).bind fun k => some (if μ.1 (s + 1) 0 ≠ 6 ∧ μ.1 (s + 1) 4 ≠ 0 then k else -15)
def RXX (Γ : GT) (ret : Option FieldType) (L : LY) (rv : Option Value) (μ' : MI) (mc ms : Nat) : Prop :=
  match Γ with
  | (p, l, e, R, s, m, args, below, meth, c, Q, H0, dC, dI, Y, ad, A, nL) => meth.sig.returnType = ret ∧ meth.locks = false ∧ H0 = s.heap ∧ Q = MQ below (cnQ dC dI Y ad A L rv μ') args s mc ms A
def xzG (Γ : GT) : Prop :=
  match Γ with
  | (p, l, e, R, s, m, args, below, meth, c, Q, H0, dC, dI, Y, ad, A, nL) => xz A s ∧ H0 = s.heap
theorem XCn.of {l : Launch} {y : MethodName} {cc : ByteArray} {maxL : Nat} {ret : Option FieldType} {d mc ms : Nat} {L : LY} {args : (Nat → Nat) → List Value} {μ : MI} {rv : (Nat → Nat) → Option Value} {μ' : MI}
    (lv0 : (Nat → Nat) → List (Option Value)) (hy : plainName y.cls = true) (hlv : ∀ ad, lvE 0 (lv0 ad) = lv_args 0 (args ad)) (hln : ∀ ad, (lg_sl (args ad)).length ≤ maxL)
    (h : ∀ Γ : GT, gln Γ = l → CX Γ cc y.cls L d maxL → RXX Γ ret L (rv (gad Γ)) μ' mc ms → (∀ k n, k ≤ mc → n ≤ ms → kX Γ k n) → xzG Γ → GX Γ L 0 0 (lv0 (gad Γ)) [] μ 0) (dC : Nat → ClassId) (dI : Nat → Nat → Nat) (Y : Nat → ClassId) (ad : Nat → Nat) (A : Nat → Prop) :
    Met l y (Cond.code y cc maxL ret :: TT) (rmI d mc ms) (va_Pc (args ad) (xP dC dI Y ad A L μ)) (cnQ dC dI Y ad A L (rv ad) μ') mc ms A := by
  refine Met.ofW (cc := cc) (maxL := maxL) (ret := ret) hy rfl ?_
  intro p e s m args0 below meth c s₁ B hml hv
  obtain ⟨rfl, ⟨hP, hK, hA⟩, hz⟩ := hv
  have hts := atoms_spec (ws := Cond.code y cc maxL ret :: TT) B.pre
  have hown : s.vm.findClass y.cls = some m.cls := findClass_of_methodNamed B.named
  have hl := lv_entry (args ad) (n := maxL) (hln ad)
  rw [lg_entry_eq]
  rw [← hlv ad] at hl
  exact h (p, l, e, rmI d mc ms, s, m, (args ad).toArray, below, meth, c, MQ below (cnQ dC dI Y ad A L (rv ad) μ') (args ad).toArray s mc ms A, s.heap, dC, dI, Y, ad, A, maxL) rfl
    ⟨B.exec, B.bytes, hml, hown, fun w hw => hts w (List.mem_cons_of_mem _ hw), hK, hA, Nat.le_refl _, Nat.le_refl _, rfl⟩ ⟨B.returns, B.notSynchronized, rfl, rfl⟩ (fun k n h1 h2 => ⟨h1, h2⟩) ⟨hz, rfl⟩ s.heap [] _ hP va_S.rf hl
theorem GX_iretX {Γ : GT} {cc : ByteArray} {own : String} {L : LY} {d nL0 k n mc ms : Nat} {lv : List (Option Value)} {μ : MI} {pc : Nat} {x r : Int32} (hC : CX Γ cc own L d nL0) (hR : RXX Γ (some .int) L (some (.int r)) μ mc ms) (hk : k ≤ mc) (hn : n ≤ ms) (hd : decode cc pc = .ok (.ireturn, 1)) (h : x = r) : GX Γ L k n lv [.int x] μ pc := by
  obtain ⟨p, l, e, R, s, m, args, below, meth, c, Q, H0, dC, dI, Y, ad, A, nL⟩ := Γ
  obtain ⟨hx, hb, hml, hown, hts, hK, hA, hd1, hd2, hnl⟩ := hC
  obtain ⟨hr, hlk, hH, hQ⟩ := hR
  intro H locs ls hP hS hl
  subst h; subst hH; subst hQ
  exact W.widen hk hn (W.iret hx hb hr (fun t ht hW => ⟨rfl, by rw [ht]; exact hP, hS.F ht⟩) hS.2.2 hd hlk)
theorem okX9_caughtFailure : Cond.codeWith yX9_caughtFailure cX9_caughtFailure 2 (some .int) [(0, 4, 7, 294)] ∈ TT ∧ Cond.initialized yX9_caughtFailure.cls ∈ TT ∧ Cond.static yX9_caughtFailure ∈ TT ∧ Cond.methodLink RX9 323 yX9_caughtFailure ∈ TT ∧ (parseMethodDescriptor yX9_caughtFailure.desc).map (fun d => d.parameters.length) = some 1 := ⟨TT_at 857 (by decide +kernel) (by decide +kernel), TT_at 1 (by decide +kernel) (by decide +kernel), TT_at 856 (by decide +kernel) (by decide +kernel), TT_at 855 (by decide +kernel) (by decide +kernel), by decide +kernel⟩
theorem GX_callCF {Γ : GT} {cc : ByteArray} {d nL0 k n : Nat} {lv : List (Option Value)} {st : List Value} {μ : MI} {pc t : Nat} {r r0 : Int32} (hC : CX Γ cc RX9 LAY d nL0) (hz : xzG Γ) (hst : (gln Γ).stackTraces = false) (ht : isMove t) (hf : Move_failureNumber t μ = some r) (hr1 : thr t μ → r0 = r) (hr2 : ¬ thr t μ → r0 = -15)
    (hdd : 9 ≤ d) (hk : kX Γ (k + 1) (n + 6)) (hrm : (st.map fun v => v.category).sum ≤ 8) (hd : decode cc pc = .ok (.invokestatic 323, 3)) (kk : GX Γ LAY (k + 1) (n + 6) lv (.int r0 :: st) μ (pc + 3)) : GX Γ LAY k n lv (.ref (gad Γ t) :: st) μ pc := by
  obtain ⟨p, l, e, R, s, m, args, below, meth, c, Q, H0, dC, dI, Y, ad, A, nL⟩ := Γ
  obtain ⟨hx, hb, hml, hown, hts, hK, hA, hd1, hd2, hnl⟩ := hC
  obtain ⟨hz, hH⟩ := hz
  subst hH
  intro H locs ls hP hS hl
  obtain ⟨o1, o2, o3, o4, o6⟩ := okX9_caughtFailure
  have hws : ∀ w ∈ Cond.codeWith yX9_caughtFailure cX9_caughtFailure 2 (some .int) [(0, 4, 7, 294)] :: TT, ∀ (a' : Array Value) (U : State), s.WarmedH U.vm → w.before a' U = true := fun w hw a' U hW => by
    rcases List.mem_cons.mp hw with rfl | hw
    · exact TT_pay hts o1 a' U hW
    · exact TT_pay hts hw a' U hW
  refine va_callG (v0 := some (.int r0)) (PP := va_P (dC, dI) vwCl (wsOf ad Y LAY μ)) (vx_runSW (As := [.ref (ad t)]) (rest := st) ⟨hx, hb, hml, hown, hts⟩ (X_caughtFailure hst ht hf r0 hr1 hr2 dC dI Y ad A)
    ⟨⟨rfl, rfl, by show 8 + 1 ≤ R.frames; omega, by show 8 + (2 + 11) + 100 * 8 ≤ R.locals; omega, hws, List.mem_cons_self⟩, hts _ o1, hts _ o2, ⟨by decide, by decide⟩, fun sig h => by rw [h] at o6; exact (Option.some.inj o6).symm, hts _ o4, hts _ o3⟩
    ⟨xP_blind, fun U hU hW => ⟨rfl, ⟨by rw [hU]; exact hP, va_K.moved hW.alike hK, hA⟩, xz.go hW hU hS hz⟩⟩ rfl rfl (hl.1.trans rfl) rfl (lv_room hrm) hd hk) (fun st oc t h => h) hS (fun H1 locs1 hP1 hS1 => kk H1 locs1 ls hP1 hS1 hl)
set_option maxRecDepth 100000 in
set_option maxHeartbeats 4000000 in
theorem X_toss {l : Launch} (hst : l.stackTraces = false) {d : Int32} {μ : MI} {r0 : Int32} (hf : N_tossP d μ = some r0) (dC : Nat → ClassId) (dI : Nat → Nat → Nat) (Y : Nat → ClassId) (ad : Nat → Nat) (A : Nat → Prop) :
    Met l yX9_toss (Cond.code yX9_toss cX9_toss 4 (some .int) :: TT) (rmI 10 1 6) (va_Pc (.ref (ad 0) :: [.int d]) (xP dC dI Y ad A LAY μ)) (cnQ dC dI Y ad A LAY (some (.int r0)) μ) 1 6 A := by
  refine XCn.of (args := fun ad => .ref (ad 0) :: [.int d]) (rv := fun _ => some (.int r0)) (fun ad => [some (.ref (ad 0)), some (.int d), none, none]) (by decide +kernel) (fun _ => rfl) (fun _ => Nat.le_of_ble_eq_true rfl) (fun Γ hl hC hR hk hz => ?_) dC dI Y ad A
  subst hl
  replace hC : CX Γ cX9_toss RX9 LAY 10 4 := hC
  unfold N_tossP at hf
  have hk0 := hk 0 0 (by decide) (by decide)
  refine GX_aload_n hC dX9_toss_0 rfl ?_
  refine GX_iload_n hC dX9_toss_1 rfl ?_
  rcases hs : N_shelfAt d with _ | s
  · have h := onNn hs hf
    refine GX_callV_n (st := []) hC (C_N_shelfAt_n hs) okX9_shelfAt lkX9_75 ol_0 rfl rfl (Nat.le_of_ble_eq_true rfl) (Nat.le_of_ble_eq_true rfl) hk0 rfl (Nat.le_of_ble_eq_true rfl) dX9_toss_2 ?_
    refine GX_astore_nN hC [some (.ref (gad Γ 0)), some (.int d), some .null, none] dX9_toss_5 (by decide) rfl rfl ?_
    refine GX_aload_nN hC dX9_toss_6 rfl ?_
    refine GX_ifnonnullN hC dX9_toss_7 ?_
    refine GX_iconst hC (-1) dX9_toss_10 rfl ?_
    exact GX_iretX hC hR (by decide) (by decide) dX9_toss_11 (oi h)
  · have h := onNs hs hf
    have hsh := isShelf_at hs
    refine GX_callV_r (st := []) hC (C_N_shelfAt_s hs) okX9_shelfAt lkX9_75 ol_0 rfl rfl (Nat.le_of_ble_eq_true rfl) (Nat.le_of_ble_eq_true rfl) hk0 rfl (Nat.le_of_ble_eq_true rfl) dX9_toss_2 ?_
    refine GX_astore_n hC [some (.ref (gad Γ 0)), some (.int d), some (.ref (gad Γ s)), none] dX9_toss_5 (by decide) rfl rfl ?_
    refine GX_aload_n hC dX9_toss_6 rfl ?_
    refine GX_ifnonnull hC 12 dX9_toss_7 (by decide) ?_
    refine GX_aload_n hC dX9_toss_12 rfl ?_
    refine GX_iconst hC 1 dX9_toss_13 rfl ?_
    obtain ⟨r, e1, h2⟩ := ob h
    refine GX_callV_i (st := []) hC (C_Shelf_refusalUnless hsh e1) okX8_refusalUnless lkX9_281 (olShelf hsh) rfl rfl (Nat.le_of_ble_eq_true rfl) (Nat.le_of_ble_eq_true rfl) hk0 rfl (Nat.le_of_ble_eq_true rfl) dX9_toss_14 ?_
    refine GX_istore_n hC [some (.ref (gad Γ 0)), some (.int d), some (.ref (gad Γ s)), some (.int r)] dX9_toss_17 (by decide) rfl rfl ?_
    refine GX_iload_n hC dX9_toss_18 rfl ?_
    refine GX_if_eq_N hC 26 dX9_toss_19 (by decide) (fun q => ?_) (fun q => ?_)
    · have h3 := ifP q h2
      refine GX_iload_n hC dX9_toss_22 rfl ?_
      refine GX_goto hC 33 dX9_toss_23 (by decide) ?_
      exact GX_iretX hC hR (by decide) (by decide) dX9_toss_33 (oi h3)
    · have h3 := ifN q h2
      obtain ⟨kf, e4, h4⟩ := ob h3
      have h4 := oi h4
      refine GX_aload_n hC dX9_toss_26 rfl ?_
      refine GX_getR hC fkX9_164 (olShelf hsh) rfl dX9_toss_27 ?_
      refine GX_callCF (st := []) (r0 := r0) hC hz hst (isMove_of hsh) e4 (fun ht => ?_) (fun ht => ?_) (by decide) (hk 1 6 (by decide) (by decide)) (Nat.le_of_ble_eq_true rfl) dX9_toss_30 ?_
      · rw [← h4]; exact if_pos ht
      · rw [← h4]; exact if_neg ht
      · exact GX_iretX hC hR (by decide) (by decide) dX9_toss_33 rfl
