/-! ===== contracts of constructors ===== -/
def rmI (d mc ms : Nat) : Room := { frames := d, cells := mc, slots := ms, locals := 100 * d }
def ciP (dC : Nat → ClassId) (dI : Nat → Nat → Nat) (Y : Nat → ClassId) (ad : Nat → Nat) (A : Nat → Prop) (L : LY) (U : State) : Prop := cnP dC dI Y ad A L μZ U ∧ (∀ q, U.heap.size ≤ q → A q) ∧ nwOK U
def ciQ (dC : Nat → ClassId) (dI : Nat → Nat → Nat) (Y : Nat → ClassId) (ad : Nat → Nat) (A : Nat → Prop) (n0 : Nat) (L1 : LY) : Array Value → State → Outcome → State → Prop := fun _ st oc t => oc = .returned none ∧ (∃ ad', (∀ i, i < n0 → ad' i = ad i) ∧ adOK A ad' L1.length ∧ va_P (dC, dI) vwCl (wsOf ad' Y L1 μZ) t.heap) ∧ va_F A st t
def CnI (l : Launch) (y : MethodName) (cc : ByteArray) (maxL d mc ms : Nat) (L0 L1 : LY) (t : Nat) : Prop :=
  ∀ (dC : Nat → ClassId) (dI : Nat → Nat → Nat) (Y : Nat → ClassId) (ad : Nat → Nat) (A : Nat → Prop),
    Met l y (Cond.code y cc maxL none :: TT) (rmI d mc ms) (va_Pc [.ref (ad t)] (ciP dC dI Y ad A L0)) (ciQ dC dI Y ad A L0.length L1) mc ms A
def RXI (Γ : GT) (n0 mc ms : Nat) (ad0 : Nat → Nat) (L1 : LY) : Prop :=
  match Γ with
  | (p, l, e, R, s, m, args, below, meth, c, Q, H0, dC, dI, Y, ad, A, nL) => meth.sig.returnType = none ∧ meth.locks = false ∧ H0 = s.heap ∧ Q = MQ below (ciQ dC dI Y ad0 A n0 L1) args s mc ms A
theorem RXI_nG {Γ : GT} {n0 mc ms : Nat} {ad0 ad : Nat → Nat} {L1 : LY} (h : RXI Γ n0 mc ms ad0 L1) : RXI (nG Γ ad) n0 mc ms ad0 L1 := by
  obtain ⟨p, l, e, R, s, m, args, below, meth, c, Q, H0, dC, dI, Y, ad1, A, nL⟩ := Γ
  have h2 : meth.sig.returnType = none ∧ meth.locks = false ∧ H0 = s.heap ∧ Q = MQ below (ciQ dC dI Y ad0 A n0 L1) args s mc ms A := h
  show meth.sig.returnType = none ∧ meth.locks = false ∧ H0 = s.heap ∧ Q = MQ below (ciQ dC dI Y ad0 A n0 L1) args s mc ms A
  exact h2
theorem CnI.of {l : Launch} {y : MethodName} {cc : ByteArray} {maxL d mc ms : Nat} {L0 L1 : LY} {t : Nat} (hy : plainName y.cls = true) (hn : y.name = "<init>") (hm : 1 ≤ maxL)
    (h : ∀ Γ : GT, gln Γ = l → CX Γ cc y.cls L0 d maxL → RXI Γ L0.length mc ms (gad Γ) L1 → (∀ k n, k ≤ mc → n ≤ ms → kX Γ k n) → alOK Γ → inInit Γ → nwOK (Γ.2.2.2.2.1) → GX Γ L0 0 0 (some (.ref (gad Γ t)) :: List.replicate (maxL - 1) none) [] μZ 0) : CnI l y cc maxL d mc ms L0 L1 t := by
  intro dC dI Y ad A
  refine Met.ofW (cc := cc) (maxL := maxL) (ret := none) hy rfl ?_
  intro p e s m args0 below meth c s₁ B hml hv
  obtain ⟨rfl, ⟨hP, hK, hA⟩, hal, hao⟩ := hv
  have hts := atoms_spec (ws := Cond.code y cc maxL none :: TT) B.pre
  have hown : s.vm.findClass y.cls = some m.cls := findClass_of_methodNamed B.named
  have hin : meth.name = "<init>" := (name_of_methodNamed B.named B.method).1.trans hn
  have hl := lv_entry ([.ref (ad t)]) (n := maxL) hm
  rw [lg_entry_eq]
  have hrep : ∀ (z k : Nat), lvE k (List.replicate z none) = [] := by
    intro z
    induction z with
    | zero => intro k; rfl
    | succ z ih => intro k; simp [List.replicate_succ, lvE, ih]
  have hlv : lvE 0 (some (.ref (ad t)) :: List.replicate (maxL - 1) none) = lv_args 0 [.ref (ad t)] := by
    show (0, Value.ref (ad t)) :: lvE 1 (List.replicate (maxL - 1) none) = _
    rw [hrep]; rfl
  rw [← hlv] at hl
  exact h (p, l, e, rmI d mc ms, s, m, [Value.ref (ad t)].toArray, below, meth, c, MQ below (ciQ dC dI Y ad A L0.length L1) [Value.ref (ad t)].toArray s mc ms A, s.heap, dC, dI, Y, ad, A, maxL) rfl
    ⟨B.exec, B.bytes, hml, hown, fun w hw => hts w (List.mem_cons_of_mem _ hw), hK, hA, Nat.le_refl _, Nat.le_refl _, rfl⟩ ⟨B.returns, B.notSynchronized, rfl, rfl⟩ (fun k n h1 h2 => ⟨h1, h2⟩) hal hin hao s.heap [] _ hP va_S.rf hl
