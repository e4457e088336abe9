/-! ===== contracts over one layout that make no cell ===== -/
def rmL (d : Nat) : Room := { frames := d, cells := 0, slots := 0, locals := 100 * d }
def cnP (dC : Nat → ClassId) (dI : Nat → Nat → Nat) (Y : Nat → ClassId) (ad : Nat → Nat) (A : Nat → Prop) (L : LY) (μ : MI) (U : State) : Prop := va_P (dC, dI) vwCl (wsOf ad Y L μ) U.heap ∧ va_K (dC, dI) vwCl (tysOf Y) U ∧ adOK A ad L.length
def cnQ (dC : Nat → ClassId) (dI : Nat → Nat → Nat) (Y : Nat → ClassId) (ad : Nat → Nat) (A : Nat → Prop) (L : LY) (rv : Option Value) (μ' : MI) : Array Value → State → Outcome → State → Prop := fun _ st oc t => oc = .returned rv ∧ va_P (dC, dI) vwCl (wsOf ad Y L μ') t.heap ∧ va_F A st t
def Cn (l : Launch) (y : MethodName) (cc : ByteArray) (maxL : Nat) (ret : Option FieldType) (d : Nat) (L : LY) (args : (Nat → Nat) → List Value) (μ : MI) (rv : (Nat → Nat) → Option Value) (μ' : MI) : Prop :=
  ∀ (dC : Nat → ClassId) (dI : Nat → Nat → Nat) (Y : Nat → ClassId) (ad : Nat → Nat) (A : Nat → Prop),
    Met l y (Cond.code y cc maxL ret :: TT) (rmL d) (va_Pc (args ad) (cnP dC dI Y ad A L μ)) (cnQ dC dI Y ad A L (rv ad) μ') 0 0 A
def RX (Γ : GT) (ret : Option FieldType) (L : LY) (rv : Option Value) (μ' : MI) : Prop :=
  match Γ with
  | (p, l, e, R, s, m, args, below, meth, c, Q, H0, dC, dI, Y, ad, A, nL) => meth.sig.returnType = ret ∧ meth.locks = false ∧ H0 = s.heap ∧ Q = MQ below (cnQ dC dI Y ad A L rv μ') args s 0 0 A
theorem Cn.of {l : Launch} {y : MethodName} {cc : ByteArray} {maxL : Nat} {ret : Option FieldType} {d : Nat} {L : LY} {args : (Nat → Nat) → List Value} {μ : MI} {rv : (Nat → Nat) → Option Value} {μ' : MI}
    (lv0 : (Nat → Nat) → List (Option Value)) (hy : plainName y.cls = true) (hlv : ∀ ad, lvE 0 (lv0 ad) = lv_args 0 (args ad)) (hln : ∀ ad, (lg_sl (args ad)).length ≤ maxL)
    (h : ∀ Γ : GT, gln Γ = l → CX Γ cc y.cls L d maxL → RX Γ ret L (rv (gad Γ)) μ' → kX Γ 0 0 → GX Γ L 0 0 (lv0 (gad Γ)) [] μ 0) : Cn l y cc maxL ret d L args μ rv μ' := by
  intro dC dI Y ad A
  refine Met.ofW (cc := cc) (maxL := maxL) (ret := ret) hy rfl ?_
  intro p e s m args0 below meth c s₁ B hml hv
  obtain ⟨rfl, hP, hK, hA⟩ := hv
  have hts := atoms_spec (ws := Cond.code y cc maxL ret :: TT) B.pre
  have hown : s.vm.findClass y.cls = some m.cls := findClass_of_methodNamed B.named
  have hl := lv_entry (args ad) (n := maxL) (hln ad)
  rw [lg_entry_eq]
  rw [← hlv ad] at hl
  exact h (p, l, e, rmL d, s, m, (args ad).toArray, below, meth, c, MQ below (cnQ dC dI Y ad A L (rv ad) μ') (args ad).toArray s 0 0 A, s.heap, dC, dI, Y, ad, A, maxL) rfl
    ⟨B.exec, B.bytes, hml, hown, fun w hw => hts w (List.mem_cons_of_mem _ hw), hK, hA, Nat.le_refl _, Nat.le_refl _, rfl⟩ ⟨B.returns, B.notSynchronized, rfl, rfl⟩ ⟨Nat.le_refl _, Nat.le_refl _⟩ s.heap [] _ hP va_S.rf hl
/-- a virtual method's words, and a static one's -/
def okV (y : MethodName) (cc : ByteArray) (maxL : Nat) (ret : Option FieldType) (n : Nat) : Prop :=
  Cond.code y cc maxL ret ∈ TT ∧ Cond.initialized y.cls ∈ TT ∧ Cond.instanceMethod y ∈ TT ∧ Cond.selects y.cls y y ∈ TT ∧ (y.cls ≠ "java/lang/invoke/MethodHandle" ∧ y.cls ≠ "java/lang/invoke/VarHandle") ∧ (parseMethodDescriptor y.desc).map (fun d => d.parameters.length) = some n
def okS (y : MethodName) (cc : ByteArray) (maxL : Nat) (ret : Option FieldType) (n : Nat) : Prop :=
  Cond.code y cc maxL ret ∈ TT ∧ Cond.initialized y.cls ∈ TT ∧ Cond.static y ∈ TT ∧ (y.cls ≠ "java/lang/invoke/MethodHandle" ∧ y.cls ≠ "java/lang/invoke/VarHandle") ∧ (parseMethodDescriptor y.desc).map (fun d => d.parameters.length) = some n
section CALLG
variable {p : Program} {l : Launch} {e : Env} {R : Room} {s : State} {m : MethodId} {args : Array Value} {below : List Frame} {meth : Method} {c : Code} {H : Heap} {locs : List Loc} {cells slots : Nat} {Q : State → Prop}
variable {pc : Nat} {ls : Array Slot} {rest st0 : List Value} {A : Nat → Prop} {H0 : Heap} {mc ms : Nat}
theorem va_callG {Qa : State → Outcome → State → Prop} {v0 : Option Value} {PP : Heap → Prop} (hr : va_Run p l e R s m args below meth c H locs cells slots mc ms (F0 m pc ls st0) rest Qa A) (hQ : ∀ st oc t, Qa st oc t → oc = .returned v0 ∧ PP t.heap ∧ va_F A st t) (hS : va_S A H0 H locs)
    (kk : ∀ (H1 : Heap) (locs1 : List Loc), PP H1 → va_S A H0 H1 locs1 → W p l e R s m args below meth c H1 locs1 (cells + mc) (slots + ms) Q (F0 m (pc + 3) ls (v0.toList ++ rest))) : W p l e R s m args below meth c H locs cells slots Q (F0 m pc ls st0) := by
  intro T hT X
  obtain ⟨v, st₀, t, T', L, h0, X', hL, e1, e2, hqa, st⟩ := hr T hT X
  obtain ⟨hv, hp, hz, hk⟩ := hQ _ _ _ hqa
  cases hv
  rw [h0] at hz hk
  obtain ⟨t2, a1, b1⟩ := kk T'.heap (locs ++ L) (by rw [e1]; exact hp)
    ⟨Nat.le_trans hS.1 (by rw [e1]; exact hz), fun q h1 h2 => by rw [e1, hk q (Nat.lt_of_lt_of_le h1 hS.1) h2]; exact hS.2.1 q h1 h2, fun q hq => by
      rcases List.mem_append.mp hq with h | h
      · exact hS.2.2 q h
      · exact hL q h⟩ T' rfl X'
  exact ⟨t2, st t2 a1, b1⟩
end CALLG
theorem cn_blind {dC : Nat → ClassId} {dI : Nat → Nat → Nat} {Y : Nat → ClassId} {ad : Nat → Nat} {A : Nat → Prop} {L : LY} {μ : MI} {av : List Value} : FrameBlind (va_Pc av (cnP dC dI Y ad A L μ)) := fun a U g mk q => by
  obtain ⟨q0, qP, qK, qA⟩ := q
  exact ⟨q0, qP, va_K.moved (u := U) (U := U.calling g mk a) (Vm.Alike.refl U.vm) qK, qA⟩

theorem GX_callV_i {Γ : GT} {cc : ByteArray} {own : String} {L : LY} {d nL0 k n : Nat} {lv : List (Option Value)} {st : List Value} {μ : MI} {pc : Nat} (hC : CX Γ cc own L d nL0) {y : MethodName} {bytes : ByteArray} {maxL d' nn ix t ci : Nat} {ret : Option FieldType} {As : (Nat → Nat) → List Value} {μ' : MI} {r : Int32} {st0 : List Value} {sl : List (Option (Option Nat))} {T : u_T} {N : Nat}
    (hM : Cn (gln Γ) y bytes maxL ret d' L (fun ad => .ref (ad t) :: As ad) μ (fun ad => some (.int r)) μ') (ok : okV y bytes maxL ret nn) (hlk : Cond.methodLink own ix y ∈ TT) (hcell : L[t]? = some (.inl (ci, sl))) (hci : vwCl[ci]? = some (y.cls, T, N))
    (hn : (As (gad Γ)).length = nn) (hdd : d' + 1 ≤ d) (hm : maxL ≤ 60) (hk : kX Γ k n) (hst : st0 = (As (gad Γ)).reverse ++ .ref (gad Γ t) :: st) (hrm : (st.map fun v => v.category).sum ≤ 8) (hd : decode cc pc = .ok (.invokevirtual ix, 3))
    (kk : GX Γ L k n lv (.int r :: st) μ' (pc + 3)) : GX Γ L k n lv st0 μ pc := by
  obtain ⟨p, l, e, R, s, m, args, below, meth, c, Q, H0, dC, dI, Y, ad, A, nL⟩ := Γ
  obtain ⟨hx, hb, hml, hown, hts, hK, hA, hd1, hd2, hnl⟩ := hC
  intro H locs ls hP hS hl
  subst hst
  obtain ⟨o1, o2, o3, o4, o5, o6⟩ := ok
  have cw : CallW R s args own y.cls ix y bytes maxL ret (Cond.code y bytes maxL ret :: TT) (rmL d') 0 0 nn :=
    ⟨⟨rfl, rfl, Nat.le_trans hdd hd1, by show 8 + (maxL + 11) + 100 * d' ≤ R.locals; omega, fun w hw a' U hW => by
      rcases List.mem_cons.mp hw with rfl | hw
      · exact TT_pay hts o1 a' U hW
      · exact TT_pay hts hw a' U hW, List.mem_cons_self, hts _ o1, hts _ o2, o5, fun sig h => by rw [h] at o6; exact (Option.some.inj o6).symm, hts _ hlk⟩, hts _ o3, hts _ o4⟩
  refine va_callG (v0 := some (.int r)) (PP := va_P (dC, dI) vwCl (wsOf ad Y L μ')) (va_runV (As := As ad) (rest := st) ⟨hx, hb, hml, hown, hts⟩ (hM dC dI Y ad A) cw
    ⟨cn_blind, va_recv hK hP hci (ws_at hcell), fun U hU hW => ⟨rfl, by rw [hU]; exact hP, va_K.moved hW.alike hK, hA⟩⟩ rfl hn (hl.1.trans rfl) rfl (lv_room hrm) hd hk) (fun st oc t h => h) hS (fun H1 locs1 hP1 hS1 => kk H1 locs1 ls hP1 hS1 hl)

theorem GX_callS_i {Γ : GT} {cc : ByteArray} {own : String} {L : LY} {d nL0 k n : Nat} {lv : List (Option Value)} {st : List Value} {μ : MI} {pc : Nat} (hC : CX Γ cc own L d nL0) {y : MethodName} {bytes : ByteArray} {maxL d' nn ix : Nat} {ret : Option FieldType} {As : (Nat → Nat) → List Value} {μ' : MI} {r : Int32} {st0 : List Value}
    (hM : Cn (gln Γ) y bytes maxL ret d' L As μ (fun ad => some (.int r)) μ') (ok : okS y bytes maxL ret nn) (hlk : Cond.methodLink own ix y ∈ TT)
    (hn : (As (gad Γ)).length = nn) (hdd : d' + 1 ≤ d) (hm : maxL ≤ 60) (hk : kX Γ k n) (hst : st0 = (As (gad Γ)).reverse ++ st) (hrm : (st.map fun v => v.category).sum ≤ 8) (hd : decode cc pc = .ok (.invokestatic ix, 3))
    (kk : GX Γ L k n lv (.int r :: st) μ' (pc + 3)) : GX Γ L k n lv st0 μ pc := by
  obtain ⟨p, l, e, R, s, m, args, below, meth, c, Q, H0, dC, dI, Y, ad, A, nL⟩ := Γ
  obtain ⟨hx, hb, hml, hown, hts, hK, hA, hd1, hd2, hnl⟩ := hC
  intro H locs ls hP hS hl
  subst hst
  obtain ⟨o1, o2, o4, o5, o6⟩ := ok
  have cw : CallB R s args own ix y bytes maxL ret (Cond.code y bytes maxL ret :: TT) (rmL d') 0 0 nn ∧ (Cond.static y).before args s = true :=
    ⟨⟨rfl, rfl, Nat.le_trans hdd hd1, by show 8 + (maxL + 11) + 100 * d' ≤ R.locals; omega, fun w hw a' U hW => by
      rcases List.mem_cons.mp hw with rfl | hw
      · exact TT_pay hts o1 a' U hW
      · exact TT_pay hts hw a' U hW, List.mem_cons_self, hts _ o1, hts _ o2, o5, fun sig h => by rw [h] at o6; exact (Option.some.inj o6).symm, hts _ hlk⟩, hts _ o4⟩
  refine va_callG (v0 := some (.int r)) (PP := va_P (dC, dI) vwCl (wsOf ad Y L μ')) (va_runS (As := As ad) (rest := st) ⟨hx, hb, hml, hown, hts⟩ (hM dC dI Y ad A) cw
    ⟨cn_blind, fun U hU hW => ⟨rfl, by rw [hU]; exact hP, va_K.moved hW.alike hK, hA⟩⟩ rfl hn (hl.1.trans rfl) rfl (lv_room hrm) hd hk) (fun st oc t h => h) hS (fun H1 locs1 hP1 hS1 => kk H1 locs1 ls hP1 hS1 hl)

theorem GX_callV_l {Γ : GT} {cc : ByteArray} {own : String} {L : LY} {d nL0 k n : Nat} {lv : List (Option Value)} {st : List Value} {μ : MI} {pc : Nat} (hC : CX Γ cc own L d nL0) {y : MethodName} {bytes : ByteArray} {maxL d' nn ix t ci : Nat} {ret : Option FieldType} {As : (Nat → Nat) → List Value} {μ' : MI} {r : Int64} {st0 : List Value} {sl : List (Option (Option Nat))} {T : u_T} {N : Nat}
    (hM : Cn (gln Γ) y bytes maxL ret d' L (fun ad => .ref (ad t) :: As ad) μ (fun ad => some (.long r)) μ') (ok : okV y bytes maxL ret nn) (hlk : Cond.methodLink own ix y ∈ TT) (hcell : L[t]? = some (.inl (ci, sl))) (hci : vwCl[ci]? = some (y.cls, T, N))
    (hn : (As (gad Γ)).length = nn) (hdd : d' + 1 ≤ d) (hm : maxL ≤ 60) (hk : kX Γ k n) (hst : st0 = (As (gad Γ)).reverse ++ .ref (gad Γ t) :: st) (hrm : (st.map fun v => v.category).sum ≤ 8) (hd : decode cc pc = .ok (.invokevirtual ix, 3))
    (kk : GX Γ L k n lv (.long r :: st) μ' (pc + 3)) : GX Γ L k n lv st0 μ pc := by
  obtain ⟨p, l, e, R, s, m, args, below, meth, c, Q, H0, dC, dI, Y, ad, A, nL⟩ := Γ
  obtain ⟨hx, hb, hml, hown, hts, hK, hA, hd1, hd2, hnl⟩ := hC
  intro H locs ls hP hS hl
  subst hst
  obtain ⟨o1, o2, o3, o4, o5, o6⟩ := ok
  have cw : CallW R s args own y.cls ix y bytes maxL ret (Cond.code y bytes maxL ret :: TT) (rmL d') 0 0 nn :=
    ⟨⟨rfl, rfl, Nat.le_trans hdd hd1, by show 8 + (maxL + 11) + 100 * d' ≤ R.locals; omega, fun w hw a' U hW => by
      rcases List.mem_cons.mp hw with rfl | hw
      · exact TT_pay hts o1 a' U hW
      · exact TT_pay hts hw a' U hW, List.mem_cons_self, hts _ o1, hts _ o2, o5, fun sig h => by rw [h] at o6; exact (Option.some.inj o6).symm, hts _ hlk⟩, hts _ o3, hts _ o4⟩
  refine va_callG (v0 := some (.long r)) (PP := va_P (dC, dI) vwCl (wsOf ad Y L μ')) (va_runV (As := As ad) (rest := st) ⟨hx, hb, hml, hown, hts⟩ (hM dC dI Y ad A) cw
    ⟨cn_blind, va_recv hK hP hci (ws_at hcell), fun U hU hW => ⟨rfl, by rw [hU]; exact hP, va_K.moved hW.alike hK, hA⟩⟩ rfl hn (hl.1.trans rfl) rfl (lv_room hrm) hd hk) (fun st oc t h => h) hS (fun H1 locs1 hP1 hS1 => kk H1 locs1 ls hP1 hS1 hl)

theorem GX_callS_l {Γ : GT} {cc : ByteArray} {own : String} {L : LY} {d nL0 k n : Nat} {lv : List (Option Value)} {st : List Value} {μ : MI} {pc : Nat} (hC : CX Γ cc own L d nL0) {y : MethodName} {bytes : ByteArray} {maxL d' nn ix : Nat} {ret : Option FieldType} {As : (Nat → Nat) → List Value} {μ' : MI} {r : Int64} {st0 : List Value}
    (hM : Cn (gln Γ) y bytes maxL ret d' L As μ (fun ad => some (.long r)) μ') (ok : okS y bytes maxL ret nn) (hlk : Cond.methodLink own ix y ∈ TT)
    (hn : (As (gad Γ)).length = nn) (hdd : d' + 1 ≤ d) (hm : maxL ≤ 60) (hk : kX Γ k n) (hst : st0 = (As (gad Γ)).reverse ++ st) (hrm : (st.map fun v => v.category).sum ≤ 8) (hd : decode cc pc = .ok (.invokestatic ix, 3))
    (kk : GX Γ L k n lv (.long r :: st) μ' (pc + 3)) : GX Γ L k n lv st0 μ pc := by
  obtain ⟨p, l, e, R, s, m, args, below, meth, c, Q, H0, dC, dI, Y, ad, A, nL⟩ := Γ
  obtain ⟨hx, hb, hml, hown, hts, hK, hA, hd1, hd2, hnl⟩ := hC
  intro H locs ls hP hS hl
  subst hst
  obtain ⟨o1, o2, o4, o5, o6⟩ := ok
  have cw : CallB R s args own ix y bytes maxL ret (Cond.code y bytes maxL ret :: TT) (rmL d') 0 0 nn ∧ (Cond.static y).before args s = true :=
    ⟨⟨rfl, rfl, Nat.le_trans hdd hd1, by show 8 + (maxL + 11) + 100 * d' ≤ R.locals; omega, fun w hw a' U hW => by
      rcases List.mem_cons.mp hw with rfl | hw
      · exact TT_pay hts o1 a' U hW
      · exact TT_pay hts hw a' U hW, List.mem_cons_self, hts _ o1, hts _ o2, o5, fun sig h => by rw [h] at o6; exact (Option.some.inj o6).symm, hts _ hlk⟩, hts _ o4⟩
  refine va_callG (v0 := some (.long r)) (PP := va_P (dC, dI) vwCl (wsOf ad Y L μ')) (va_runS (As := As ad) (rest := st) ⟨hx, hb, hml, hown, hts⟩ (hM dC dI Y ad A) cw
    ⟨cn_blind, fun U hU hW => ⟨rfl, by rw [hU]; exact hP, va_K.moved hW.alike hK, hA⟩⟩ rfl hn (hl.1.trans rfl) rfl (lv_room hrm) hd hk) (fun st oc t h => h) hS (fun H1 locs1 hP1 hS1 => kk H1 locs1 ls hP1 hS1 hl)

theorem GX_callV_v {Γ : GT} {cc : ByteArray} {own : String} {L : LY} {d nL0 k n : Nat} {lv : List (Option Value)} {st : List Value} {μ : MI} {pc : Nat} (hC : CX Γ cc own L d nL0) {y : MethodName} {bytes : ByteArray} {maxL d' nn ix t ci : Nat} {ret : Option FieldType} {As : (Nat → Nat) → List Value} {μ' : MI}  {st0 : List Value} {sl : List (Option (Option Nat))} {T : u_T} {N : Nat}
    (hM : Cn (gln Γ) y bytes maxL ret d' L (fun ad => .ref (ad t) :: As ad) μ (fun ad => none) μ') (ok : okV y bytes maxL ret nn) (hlk : Cond.methodLink own ix y ∈ TT) (hcell : L[t]? = some (.inl (ci, sl))) (hci : vwCl[ci]? = some (y.cls, T, N))
    (hn : (As (gad Γ)).length = nn) (hdd : d' + 1 ≤ d) (hm : maxL ≤ 60) (hk : kX Γ k n) (hst : st0 = (As (gad Γ)).reverse ++ .ref (gad Γ t) :: st) (hrm : (st.map fun v => v.category).sum ≤ 8) (hd : decode cc pc = .ok (.invokevirtual ix, 3))
    (kk : GX Γ L k n lv st μ' (pc + 3)) : GX Γ L k n lv st0 μ pc := by
  obtain ⟨p, l, e, R, s, m, args, below, meth, c, Q, H0, dC, dI, Y, ad, A, nL⟩ := Γ
  obtain ⟨hx, hb, hml, hown, hts, hK, hA, hd1, hd2, hnl⟩ := hC
  intro H locs ls hP hS hl
  subst hst
  obtain ⟨o1, o2, o3, o4, o5, o6⟩ := ok
  have cw : CallW R s args own y.cls ix y bytes maxL ret (Cond.code y bytes maxL ret :: TT) (rmL d') 0 0 nn :=
    ⟨⟨rfl, rfl, Nat.le_trans hdd hd1, by show 8 + (maxL + 11) + 100 * d' ≤ R.locals; omega, fun w hw a' U hW => by
      rcases List.mem_cons.mp hw with rfl | hw
      · exact TT_pay hts o1 a' U hW
      · exact TT_pay hts hw a' U hW, List.mem_cons_self, hts _ o1, hts _ o2, o5, fun sig h => by rw [h] at o6; exact (Option.some.inj o6).symm, hts _ hlk⟩, hts _ o3, hts _ o4⟩
  refine va_callG (v0 := none) (PP := va_P (dC, dI) vwCl (wsOf ad Y L μ')) (va_runV (As := As ad) (rest := st) ⟨hx, hb, hml, hown, hts⟩ (hM dC dI Y ad A) cw
    ⟨cn_blind, va_recv hK hP hci (ws_at hcell), fun U hU hW => ⟨rfl, by rw [hU]; exact hP, va_K.moved hW.alike hK, hA⟩⟩ rfl hn (hl.1.trans rfl) rfl (lv_room hrm) hd hk) (fun st oc t h => h) hS (fun H1 locs1 hP1 hS1 => kk H1 locs1 ls hP1 hS1 hl)

theorem GX_callS_v {Γ : GT} {cc : ByteArray} {own : String} {L : LY} {d nL0 k n : Nat} {lv : List (Option Value)} {st : List Value} {μ : MI} {pc : Nat} (hC : CX Γ cc own L d nL0) {y : MethodName} {bytes : ByteArray} {maxL d' nn ix : Nat} {ret : Option FieldType} {As : (Nat → Nat) → List Value} {μ' : MI}  {st0 : List Value}
    (hM : Cn (gln Γ) y bytes maxL ret d' L As μ (fun ad => none) μ') (ok : okS y bytes maxL ret nn) (hlk : Cond.methodLink own ix y ∈ TT)
    (hn : (As (gad Γ)).length = nn) (hdd : d' + 1 ≤ d) (hm : maxL ≤ 60) (hk : kX Γ k n) (hst : st0 = (As (gad Γ)).reverse ++ st) (hrm : (st.map fun v => v.category).sum ≤ 8) (hd : decode cc pc = .ok (.invokestatic ix, 3))
    (kk : GX Γ L k n lv st μ' (pc + 3)) : GX Γ L k n lv st0 μ pc := by
  obtain ⟨p, l, e, R, s, m, args, below, meth, c, Q, H0, dC, dI, Y, ad, A, nL⟩ := Γ
  obtain ⟨hx, hb, hml, hown, hts, hK, hA, hd1, hd2, hnl⟩ := hC
  intro H locs ls hP hS hl
  subst hst
  obtain ⟨o1, o2, o4, o5, o6⟩ := ok
  have cw : CallB R s args own ix y bytes maxL ret (Cond.code y bytes maxL ret :: TT) (rmL d') 0 0 nn ∧ (Cond.static y).before args s = true :=
    ⟨⟨rfl, rfl, Nat.le_trans hdd hd1, by show 8 + (maxL + 11) + 100 * d' ≤ R.locals; omega, fun w hw a' U hW => by
      rcases List.mem_cons.mp hw with rfl | hw
      · exact TT_pay hts o1 a' U hW
      · exact TT_pay hts hw a' U hW, List.mem_cons_self, hts _ o1, hts _ o2, o5, fun sig h => by rw [h] at o6; exact (Option.some.inj o6).symm, hts _ hlk⟩, hts _ o4⟩
  refine va_callG (v0 := none) (PP := va_P (dC, dI) vwCl (wsOf ad Y L μ')) (va_runS (As := As ad) (rest := st) ⟨hx, hb, hml, hown, hts⟩ (hM dC dI Y ad A) cw
    ⟨cn_blind, fun U hU hW => ⟨rfl, by rw [hU]; exact hP, va_K.moved hW.alike hK, hA⟩⟩ rfl hn (hl.1.trans rfl) rfl (lv_room hrm) hd hk) (fun st oc t h => h) hS (fun H1 locs1 hP1 hS1 => kk H1 locs1 ls hP1 hS1 hl)

theorem GX_callV_r {Γ : GT} {cc : ByteArray} {own : String} {L : LY} {d nL0 k n : Nat} {lv : List (Option Value)} {st : List Value} {μ : MI} {pc : Nat} (hC : CX Γ cc own L d nL0) {y : MethodName} {bytes : ByteArray} {maxL d' nn ix t ci : Nat} {ret : Option FieldType} {As : (Nat → Nat) → List Value} {μ' : MI} {q : Nat} {st0 : List Value} {sl : List (Option (Option Nat))} {T : u_T} {N : Nat}
    (hM : Cn (gln Γ) y bytes maxL ret d' L (fun ad => .ref (ad t) :: As ad) μ (fun ad => some (.ref (ad q))) μ') (ok : okV y bytes maxL ret nn) (hlk : Cond.methodLink own ix y ∈ TT) (hcell : L[t]? = some (.inl (ci, sl))) (hci : vwCl[ci]? = some (y.cls, T, N))
    (hn : (As (gad Γ)).length = nn) (hdd : d' + 1 ≤ d) (hm : maxL ≤ 60) (hk : kX Γ k n) (hst : st0 = (As (gad Γ)).reverse ++ .ref (gad Γ t) :: st) (hrm : (st.map fun v => v.category).sum ≤ 8) (hd : decode cc pc = .ok (.invokevirtual ix, 3))
    (kk : GX Γ L k n lv (.ref (gad Γ q) :: st) μ' (pc + 3)) : GX Γ L k n lv st0 μ pc := by
  obtain ⟨p, l, e, R, s, m, args, below, meth, c, Q, H0, dC, dI, Y, ad, A, nL⟩ := Γ
  obtain ⟨hx, hb, hml, hown, hts, hK, hA, hd1, hd2, hnl⟩ := hC
  intro H locs ls hP hS hl
  subst hst
  obtain ⟨o1, o2, o3, o4, o5, o6⟩ := ok
  have cw : CallW R s args own y.cls ix y bytes maxL ret (Cond.code y bytes maxL ret :: TT) (rmL d') 0 0 nn :=
    ⟨⟨rfl, rfl, Nat.le_trans hdd hd1, by show 8 + (maxL + 11) + 100 * d' ≤ R.locals; omega, fun w hw a' U hW => by
      rcases List.mem_cons.mp hw with rfl | hw
      · exact TT_pay hts o1 a' U hW
      · exact TT_pay hts hw a' U hW, List.mem_cons_self, hts _ o1, hts _ o2, o5, fun sig h => by rw [h] at o6; exact (Option.some.inj o6).symm, hts _ hlk⟩, hts _ o3, hts _ o4⟩
  refine va_callG (v0 := some (.ref (ad q))) (PP := va_P (dC, dI) vwCl (wsOf ad Y L μ')) (va_runV (As := As ad) (rest := st) ⟨hx, hb, hml, hown, hts⟩ (hM dC dI Y ad A) cw
    ⟨cn_blind, va_recv hK hP hci (ws_at hcell), fun U hU hW => ⟨rfl, by rw [hU]; exact hP, va_K.moved hW.alike hK, hA⟩⟩ rfl hn (hl.1.trans rfl) rfl (lv_room hrm) hd hk) (fun st oc t h => h) hS (fun H1 locs1 hP1 hS1 => kk H1 locs1 ls hP1 hS1 hl)

theorem GX_callS_r {Γ : GT} {cc : ByteArray} {own : String} {L : LY} {d nL0 k n : Nat} {lv : List (Option Value)} {st : List Value} {μ : MI} {pc : Nat} (hC : CX Γ cc own L d nL0) {y : MethodName} {bytes : ByteArray} {maxL d' nn ix : Nat} {ret : Option FieldType} {As : (Nat → Nat) → List Value} {μ' : MI} {q : Nat} {st0 : List Value}
    (hM : Cn (gln Γ) y bytes maxL ret d' L As μ (fun ad => some (.ref (ad q))) μ') (ok : okS y bytes maxL ret nn) (hlk : Cond.methodLink own ix y ∈ TT)
    (hn : (As (gad Γ)).length = nn) (hdd : d' + 1 ≤ d) (hm : maxL ≤ 60) (hk : kX Γ k n) (hst : st0 = (As (gad Γ)).reverse ++ st) (hrm : (st.map fun v => v.category).sum ≤ 8) (hd : decode cc pc = .ok (.invokestatic ix, 3))
    (kk : GX Γ L k n lv (.ref (gad Γ q) :: st) μ' (pc + 3)) : GX Γ L k n lv st0 μ pc := by
  obtain ⟨p, l, e, R, s, m, args, below, meth, c, Q, H0, dC, dI, Y, ad, A, nL⟩ := Γ
  obtain ⟨hx, hb, hml, hown, hts, hK, hA, hd1, hd2, hnl⟩ := hC
  intro H locs ls hP hS hl
  subst hst
  obtain ⟨o1, o2, o4, o5, o6⟩ := ok
  have cw : CallB R s args own ix y bytes maxL ret (Cond.code y bytes maxL ret :: TT) (rmL d') 0 0 nn ∧ (Cond.static y).before args s = true :=
    ⟨⟨rfl, rfl, Nat.le_trans hdd hd1, by show 8 + (maxL + 11) + 100 * d' ≤ R.locals; omega, fun w hw a' U hW => by
      rcases List.mem_cons.mp hw with rfl | hw
      · exact TT_pay hts o1 a' U hW
      · exact TT_pay hts hw a' U hW, List.mem_cons_self, hts _ o1, hts _ o2, o5, fun sig h => by rw [h] at o6; exact (Option.some.inj o6).symm, hts _ hlk⟩, hts _ o4⟩
  refine va_callG (v0 := some (.ref (ad q))) (PP := va_P (dC, dI) vwCl (wsOf ad Y L μ')) (va_runS (As := As ad) (rest := st) ⟨hx, hb, hml, hown, hts⟩ (hM dC dI Y ad A) cw
    ⟨cn_blind, fun U hU hW => ⟨rfl, by rw [hU]; exact hP, va_K.moved hW.alike hK, hA⟩⟩ rfl hn (hl.1.trans rfl) rfl (lv_room hrm) hd hk) (fun st oc t h => h) hS (fun H1 locs1 hP1 hS1 => kk H1 locs1 ls hP1 hS1 hl)

theorem GX_callV_n {Γ : GT} {cc : ByteArray} {own : String} {L : LY} {d nL0 k n : Nat} {lv : List (Option Value)} {st : List Value} {μ : MI} {pc : Nat} (hC : CX Γ cc own L d nL0) {y : MethodName} {bytes : ByteArray} {maxL d' nn ix t ci : Nat} {ret : Option FieldType} {As : (Nat → Nat) → List Value} {μ' : MI}  {st0 : List Value} {sl : List (Option (Option Nat))} {T : u_T} {N : Nat}
    (hM : Cn (gln Γ) y bytes maxL ret d' L (fun ad => .ref (ad t) :: As ad) μ (fun ad => some .null) μ') (ok : okV y bytes maxL ret nn) (hlk : Cond.methodLink own ix y ∈ TT) (hcell : L[t]? = some (.inl (ci, sl))) (hci : vwCl[ci]? = some (y.cls, T, N))
    (hn : (As (gad Γ)).length = nn) (hdd : d' + 1 ≤ d) (hm : maxL ≤ 60) (hk : kX Γ k n) (hst : st0 = (As (gad Γ)).reverse ++ .ref (gad Γ t) :: st) (hrm : (st.map fun v => v.category).sum ≤ 8) (hd : decode cc pc = .ok (.invokevirtual ix, 3))
    (kk : GX Γ L k n lv (.null :: st) μ' (pc + 3)) : GX Γ L k n lv st0 μ pc := by
  obtain ⟨p, l, e, R, s, m, args, below, meth, c, Q, H0, dC, dI, Y, ad, A, nL⟩ := Γ
  obtain ⟨hx, hb, hml, hown, hts, hK, hA, hd1, hd2, hnl⟩ := hC
  intro H locs ls hP hS hl
  subst hst
  obtain ⟨o1, o2, o3, o4, o5, o6⟩ := ok
  have cw : CallW R s args own y.cls ix y bytes maxL ret (Cond.code y bytes maxL ret :: TT) (rmL d') 0 0 nn :=
    ⟨⟨rfl, rfl, Nat.le_trans hdd hd1, by show 8 + (maxL + 11) + 100 * d' ≤ R.locals; omega, fun w hw a' U hW => by
      rcases List.mem_cons.mp hw with rfl | hw
      · exact TT_pay hts o1 a' U hW
      · exact TT_pay hts hw a' U hW, List.mem_cons_self, hts _ o1, hts _ o2, o5, fun sig h => by rw [h] at o6; exact (Option.some.inj o6).symm, hts _ hlk⟩, hts _ o3, hts _ o4⟩
  refine va_callG (v0 := some .null) (PP := va_P (dC, dI) vwCl (wsOf ad Y L μ')) (va_runV (As := As ad) (rest := st) ⟨hx, hb, hml, hown, hts⟩ (hM dC dI Y ad A) cw
    ⟨cn_blind, va_recv hK hP hci (ws_at hcell), fun U hU hW => ⟨rfl, by rw [hU]; exact hP, va_K.moved hW.alike hK, hA⟩⟩ rfl hn (hl.1.trans rfl) rfl (lv_room hrm) hd hk) (fun st oc t h => h) hS (fun H1 locs1 hP1 hS1 => kk H1 locs1 ls hP1 hS1 hl)

theorem GX_callS_n {Γ : GT} {cc : ByteArray} {own : String} {L : LY} {d nL0 k n : Nat} {lv : List (Option Value)} {st : List Value} {μ : MI} {pc : Nat} (hC : CX Γ cc own L d nL0) {y : MethodName} {bytes : ByteArray} {maxL d' nn ix : Nat} {ret : Option FieldType} {As : (Nat → Nat) → List Value} {μ' : MI}  {st0 : List Value}
    (hM : Cn (gln Γ) y bytes maxL ret d' L As μ (fun ad => some .null) μ') (ok : okS y bytes maxL ret nn) (hlk : Cond.methodLink own ix y ∈ TT)
    (hn : (As (gad Γ)).length = nn) (hdd : d' + 1 ≤ d) (hm : maxL ≤ 60) (hk : kX Γ k n) (hst : st0 = (As (gad Γ)).reverse ++ st) (hrm : (st.map fun v => v.category).sum ≤ 8) (hd : decode cc pc = .ok (.invokestatic ix, 3))
    (kk : GX Γ L k n lv (.null :: st) μ' (pc + 3)) : GX Γ L k n lv st0 μ pc := by
  obtain ⟨p, l, e, R, s, m, args, below, meth, c, Q, H0, dC, dI, Y, ad, A, nL⟩ := Γ
  obtain ⟨hx, hb, hml, hown, hts, hK, hA, hd1, hd2, hnl⟩ := hC
  intro H locs ls hP hS hl
  subst hst
  obtain ⟨o1, o2, o4, o5, o6⟩ := ok
  have cw : CallB R s args own ix y bytes maxL ret (Cond.code y bytes maxL ret :: TT) (rmL d') 0 0 nn ∧ (Cond.static y).before args s = true :=
    ⟨⟨rfl, rfl, Nat.le_trans hdd hd1, by show 8 + (maxL + 11) + 100 * d' ≤ R.locals; omega, fun w hw a' U hW => by
      rcases List.mem_cons.mp hw with rfl | hw
      · exact TT_pay hts o1 a' U hW
      · exact TT_pay hts hw a' U hW, List.mem_cons_self, hts _ o1, hts _ o2, o5, fun sig h => by rw [h] at o6; exact (Option.some.inj o6).symm, hts _ hlk⟩, hts _ o4⟩
  refine va_callG (v0 := some .null) (PP := va_P (dC, dI) vwCl (wsOf ad Y L μ')) (va_runS (As := As ad) (rest := st) ⟨hx, hb, hml, hown, hts⟩ (hM dC dI Y ad A) cw
    ⟨cn_blind, fun U hU hW => ⟨rfl, by rw [hU]; exact hP, va_K.moved hW.alike hK, hA⟩⟩ rfl hn (hl.1.trans rfl) rfl (lv_room hrm) hd hk) (fun st oc t h => h) hS (fun H1 locs1 hP1 hS1 => kk H1 locs1 ls hP1 hS1 hl)

theorem GX_iret {Γ : GT} {cc : ByteArray} {own : String} {L : LY} {d nL0 : Nat} {lv : List (Option Value)} {μ : MI} {pc : Nat} (hC : CX Γ cc own L d nL0) {x : Int32} {rv : Option Value} {μ' : MI} (hR : RX Γ (some .int) L rv μ') (hv : some (.int x) = rv) (hμ : μ = μ') (hd : decode cc pc = .ok (.ireturn, 1)) : GX Γ L 0 0 lv [.int x] μ pc := by
  obtain ⟨p, l, e, R, s, m, args, below, meth, c, Q, H0, dC, dI, Y, ad, A, nL⟩ := Γ
  obtain ⟨hx, hb, hml, hown, hts, hK, hA, hd1, hd2, hnl⟩ := hC
  intro H locs ls hP hS hl
  obtain ⟨hr, hlk, hH, hQ⟩ := hR
  subst hv; subst hμ; subst hH; subst hQ
  exact W.iret hx hb hr (fun t ht hW => ⟨rfl, by rw [ht]; exact hP, hS.F ht⟩) hS.2.2 hd hlk

theorem GX_zret {Γ : GT} {cc : ByteArray} {own : String} {L : LY} {d nL0 : Nat} {lv : List (Option Value)} {μ : MI} {pc : Nat} (hC : CX Γ cc own L d nL0) {b : Bool} {rv : Option Value} {μ' : MI} (hR : RX Γ (some .boolean) L rv μ') (hv : some (.int (bI b)) = rv) (hμ : μ = μ') (hd : decode cc pc = .ok (.ireturn, 1)) : GX Γ L 0 0 lv [.int (bI b)] μ pc := by
  obtain ⟨p, l, e, R, s, m, args, below, meth, c, Q, H0, dC, dI, Y, ad, A, nL⟩ := Γ
  obtain ⟨hx, hb, hml, hown, hts, hK, hA, hd1, hd2, hnl⟩ := hC
  intro H locs ls hP hS hl
  obtain ⟨hr, hlk, hH, hQ⟩ := hR
  subst hv; subst hμ; subst hH; subst hQ
  exact W.zret hx hb hr (nar_b b) (fun t ht hW => ⟨rfl, by rw [ht]; exact hP, hS.F ht⟩) hS.2.2 hd hlk

theorem GX_lret {Γ : GT} {cc : ByteArray} {own : String} {L : LY} {d nL0 : Nat} {lv : List (Option Value)} {μ : MI} {pc : Nat} (hC : CX Γ cc own L d nL0) {x : Int64} {rv : Option Value} {μ' : MI} (hR : RX Γ (some .long) L rv μ') (hv : some (.long x) = rv) (hμ : μ = μ') (hd : decode cc pc = .ok (.lreturn, 1)) : GX Γ L 0 0 lv [.long x] μ pc := by
  obtain ⟨p, l, e, R, s, m, args, below, meth, c, Q, H0, dC, dI, Y, ad, A, nL⟩ := Γ
  obtain ⟨hx, hb, hml, hown, hts, hK, hA, hd1, hd2, hnl⟩ := hC
  intro H locs ls hP hS hl
  obtain ⟨hr, hlk, hH, hQ⟩ := hR
  subst hv; subst hμ; subst hH; subst hQ
  exact W.lret hx hb hr (fun t ht hW => ⟨rfl, by rw [ht]; exact hP, hS.F ht⟩) hS.2.2 hd hlk

theorem GX_vret {Γ : GT} {cc : ByteArray} {own : String} {L : LY} {d nL0 : Nat} {lv : List (Option Value)} {μ : MI} {pc : Nat} (hC : CX Γ cc own L d nL0)  {rv : Option Value} {μ' : MI} (hR : RX Γ none L rv μ') (hv : none = rv) (hμ : μ = μ') (hd : decode cc pc = .ok (.return_, 1)) : GX Γ L 0 0 lv [] μ pc := by
  obtain ⟨p, l, e, R, s, m, args, below, meth, c, Q, H0, dC, dI, Y, ad, A, nL⟩ := Γ
  obtain ⟨hx, hb, hml, hown, hts, hK, hA, hd1, hd2, hnl⟩ := hC
  intro H locs ls hP hS hl
  obtain ⟨hr, hlk, hH, hQ⟩ := hR
  subst hv; subst hμ; subst hH; subst hQ
  exact W.vret hx hb hr (fun t ht hW => ⟨rfl, by rw [ht]; exact hP, hS.F ht⟩) hS.2.2 hd hlk

theorem GX_aret {Γ : GT} {cc : ByteArray} {own : String} {L : LY} {d nL0 : Nat} {lv : List (Option Value)} {μ : MI} {pc : Nat} (hC : CX Γ cc own L d nL0) {v : Value} {C : String} {rv : Option Value} {μ' : MI} (hR : RX Γ (some (.object C)) L rv μ') (hvv : v = .null ∨ ∃ a, v = .ref a) (hv : some v = rv) (hμ : μ = μ') (hd : decode cc pc = .ok (.areturn, 1)) : GX Γ L 0 0 lv [v] μ pc := by
  obtain ⟨p, l, e, R, s, m, args, below, meth, c, Q, H0, dC, dI, Y, ad, A, nL⟩ := Γ
  obtain ⟨hx, hb, hml, hown, hts, hK, hA, hd1, hd2, hnl⟩ := hC
  intro H locs ls hP hS hl
  obtain ⟨hr, hlk, hH, hQ⟩ := hR
  subst hv; subst hμ; subst hH; subst hQ
  exact W.aret hx hb hr (Or.inl ⟨C, rfl⟩) hvv (fun t ht hW => ⟨rfl, by rw [ht]; exact hP, hS.F ht⟩) hS.2.2 hd hlk

theorem GX_iretR {Γ : GT} {cc : ByteArray} {own : String} {L : LY} {d nL0 : Nat} {lv : List (Option Value)} {μ : MI} {pc : Nat} (hC : CX Γ cc own L d nL0) {x r : Int32} (hR : RX Γ (some .int) L (some (.int r)) μ) (hd : decode cc pc = .ok (.ireturn, 1)) (h : x = r) : GX Γ L 0 0 lv [.int x] μ pc := GX_iret hC hR (by rw [h]) rfl hd
theorem GX_iretW {Γ : GT} {cc : ByteArray} {own : String} {L : LY} {d nL0 : Nat} {lv : List (Option Value)} {μ : MI} {pc : Nat} (hC : CX Γ cc own L d nL0) {x r : Int32} {μ' : MI} (hR : RX Γ (some .int) L (some (.int r)) μ') (hd : decode cc pc = .ok (.ireturn, 1)) (h : (x, μ) = (r, μ')) : GX Γ L 0 0 lv [.int x] μ pc := GX_iret hC hR (by rw [(Prod.mk.inj h).1]) (Prod.mk.inj h).2 hd
theorem GX_zretR {Γ : GT} {cc : ByteArray} {own : String} {L : LY} {d nL0 : Nat} {lv : List (Option Value)} {μ : MI} {pc : Nat} (hC : CX Γ cc own L d nL0) (b : Bool) {r : Bool} (hR : RX Γ (some .boolean) L (some (.int (bI r))) μ) (hd : decode cc pc = .ok (.ireturn, 1)) (h : b = r) : GX Γ L 0 0 lv [.int (bI b)] μ pc := GX_zret hC hR (by rw [h]) rfl hd
theorem GX_zretW {Γ : GT} {cc : ByteArray} {own : String} {L : LY} {d nL0 : Nat} {lv : List (Option Value)} {μ : MI} {pc : Nat} (hC : CX Γ cc own L d nL0) (b : Bool) {r : Bool} {μ' : MI} (hR : RX Γ (some .boolean) L (some (.int (bI r))) μ') (hd : decode cc pc = .ok (.ireturn, 1)) (h : (b, μ) = (r, μ')) : GX Γ L 0 0 lv [.int (bI b)] μ pc := GX_zret hC hR (by rw [(Prod.mk.inj h).1]) (Prod.mk.inj h).2 hd
theorem GX_lretR {Γ : GT} {cc : ByteArray} {own : String} {L : LY} {d nL0 : Nat} {lv : List (Option Value)} {μ : MI} {pc : Nat} (hC : CX Γ cc own L d nL0) {x r : Int64} (hR : RX Γ (some .long) L (some (.long r)) μ) (hd : decode cc pc = .ok (.lreturn, 1)) (h : x = r) : GX Γ L 0 0 lv [.long x] μ pc := GX_lret hC hR (by rw [h]) rfl hd
theorem GX_lretW {Γ : GT} {cc : ByteArray} {own : String} {L : LY} {d nL0 : Nat} {lv : List (Option Value)} {μ : MI} {pc : Nat} (hC : CX Γ cc own L d nL0) {x r : Int64} {μ' : MI} (hR : RX Γ (some .long) L (some (.long r)) μ') (hd : decode cc pc = .ok (.lreturn, 1)) (h : (x, μ) = (r, μ')) : GX Γ L 0 0 lv [.long x] μ pc := GX_lret hC hR (by rw [(Prod.mk.inj h).1]) (Prod.mk.inj h).2 hd
theorem GX_vretW {Γ : GT} {cc : ByteArray} {own : String} {L : LY} {d nL0 : Nat} {lv : List (Option Value)} {μ : MI} {pc : Nat} (hC : CX Γ cc own L d nL0) {μ' : MI} (hR : RX Γ none L none μ') (hd : decode cc pc = .ok (.return_, 1)) (h : μ = μ') : GX Γ L 0 0 lv [] μ pc := GX_vret hC hR rfl h hd
/-! ===== the pure side's small words ===== -/
theorem ob {α β : Type} {m : Option α} {k : α → Option β} {r : β} (h : m.bind k = some r) : ∃ a, m = some a ∧ k a = some r := Option.bind_eq_some_iff.mp h
theorem oi {α : Type} {a b : α} (h : some a = some b) : a = b := Option.some.inj h

