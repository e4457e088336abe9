/-- a constructor's words -/
def okI (y : MethodName) (cc : ByteArray) (maxL : Nat) : Prop := Cond.code y cc maxL none ∈ TT ∧ Cond.initialized y.cls ∈ TT ∧ Cond.instanceMethod y ∈ TT ∧ (y.cls ≠ "java/lang/invoke/MethodHandle" ∧ y.cls ≠ "java/lang/invoke/VarHandle") ∧ (parseMethodDescriptor y.desc).map (fun d => d.parameters.length) = some 0 ∧ y.name = "<init>"
theorem GX_callI {Γ : GT} {cc : ByteArray} {own : String} {L : LY} {d nL0 k n : Nat} {lv : List (Option Value)} {st : List Value} {pc : Nat} (hC : CX Γ cc own L d nL0) {y : MethodName} {bytes : ByteArray} {maxL d' mc ms ix t : Nat} {L1 : LY}
    (hM : CnI (gln Γ) y bytes maxL d' mc ms L L1 t) (ok : okI y bytes maxL) (hlk : (∃ host, (own, ix, y, host) ∈ NK) ∨ Cond.methodLink own ix y ∈ TT) (hal : alOK Γ) (hao : nwOK (Γ.2.2.2.2.1))
    (hdd : d' + 1 ≤ d) (hm : maxL ≤ 60) (hk : kX Γ (k + mc) (n + ms)) (hrm : (st.map fun v => v.category).sum ≤ 8) (hd : decode cc pc = .ok (.invokespecial ix, 3))
    (lvf : (Nat → Nat) → List (Option Value)) (stf : (Nat → Nat) → List Value) (hlv : lv = lvf (gad Γ)) (hst : st = stf (gad Γ)) (hcg : ∀ a b : Nat → Nat, (∀ i, i < L.length → a i = b i) → lvf a = lvf b ∧ stf a = stf b)
    (kk : ∀ ad' : Nat → Nat, (∀ i, i < L.length → ad' i = gad Γ i) → CX (nG Γ ad') cc own L1 d nL0 → GX (nG Γ ad') L1 (k + mc) (n + ms) (lvf ad') (stf ad') μZ (pc + 3)) : GX Γ L k n lv (.ref (gad Γ t) :: st) μZ pc := by
  obtain ⟨p, l, e, R, s, m, args, below, meth, c, Q, H0, dC, dI, Y, ad, A, nL⟩ := Γ
  obtain ⟨hx, hb, hml, hown, hts, hK, hA, hd1, hd2, hnl⟩ := hC
  intro H locs ls hP hS hl
  simp only [nG_mk] at kk
  subst hlv; subst hst
  obtain ⟨o1, o2, o3, o5, o6, o7⟩ := ok
  have hws : ∀ w ∈ Cond.code y bytes maxL none :: TT, ∀ (a' : Array Value) (U : State), s.WarmedH U.vm → w.before a' U = true := fun w hw a' U hW => by
    rcases List.mem_cons.mp hw with rfl | hw
    · exact TT_pay hts o1 a' U hW
    · exact TT_pay hts hw a' U hW
  have hlo : 8 + (maxL + 11) + 100 * d' ≤ R.locals := by omega
  have hpre : PreS s H (va_Pc [.ref (ad t)] (ciP dC dI Y ad A L)) [.ref (ad t)] := by
    refine ⟨fun a U g mk q => ?_, fun U hU hW => ⟨rfl, ⟨by rw [hU]; exact hP, va_K.moved hW.alike hK, hA⟩, fun q hq => hal q (Nat.le_trans hS.1 (by rw [← hU]; exact hq)), ?_⟩⟩
    · obtain ⟨q0, ⟨qP, qK, qA⟩, qal, qao⟩ := q
      exact ⟨q0, ⟨qP, va_K.moved (u := U) (U := U.calling g mk a) (Vm.Alike.refl U.vm) qK, qA⟩, qal, qao.calls⟩
    · exact nwOK.warm hW hao
  have hrun : va_Run p l e R s m args below meth c H locs k n mc ms (F0 m pc ls (.ref (ad t) :: stf ad)) (stf ad) (ciQ dC dI Y ad A L.length L1 [Value.ref (ad t)].toArray) A := by
    rcases hlk with ⟨host, hlk⟩ | hlk
    · exact va_runIN (As := []) (rest := stf ad) (host := host) ⟨hx, hb, hml, hown, hts⟩ (hM dC dI Y ad A)
        ⟨⟨⟨rfl, rfl, Nat.le_trans hdd hd1, hlo, hws, List.mem_cons_self⟩, hts _ o1, hts _ o2, o5, fun sig h => by rw [h] at o6; exact (Option.some.inj o6).symm, va_Nw.use rfl (hao.2 _ hlk)⟩, o7, hts _ o3⟩ hpre rfl rfl (hl.1.trans rfl) rfl (lv_room hrm) hd hk
    · exact va_runI (As := []) (rest := stf ad) ⟨hx, hb, hml, hown, hts⟩ (hM dC dI Y ad A)
        ⟨⟨rfl, rfl, Nat.le_trans hdd hd1, hlo, hws, List.mem_cons_self, hts _ o1, hts _ o2, o5, fun sig h => by rw [h] at o6; exact (Option.some.inj o6).symm, hts _ hlk⟩, o7, hts _ o3⟩ hpre rfl rfl (hl.1.trans rfl) rfl (lv_room hrm) hd hk
  refine va_callG (v0 := none) (PP := fun H1 => ∃ ad' : Nat → Nat, (∀ i, i < L.length → ad' i = ad i) ∧ adOK A ad' L1.length ∧ va_P (dC, dI) vwCl (wsOf ad' Y L1 μZ) H1) hrun (fun st oc t h => h) hS (fun H1 locs1 hP1 hS1 => ?_)
  obtain ⟨ad', ha, hA', hP1⟩ := hP1
  obtain ⟨g1, g2⟩ := hcg ad ad' (fun i hi => (ha i hi).symm)
  have := kk ad' ha ⟨hx, hb, hml, hown, hts, hK, hA', hd1, hd2, hnl⟩ H1 locs1 ls hP1 hS1 (by rw [← g1]; exact hl)
  have g2' : stf ad = stf ad' := g2
  show W p l e R s m args below meth c H1 locs1 (k + mc) (n + ms) Q (F0 m (pc + 3) ls (stf ad))
  rw [g2']
  exact this

