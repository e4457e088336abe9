/-! ===== cells that are made: the addresses grow ===== -/
def μZ : MI := (fun _ _ => 0, fun _ _ => 0)
theorem si_Z (a j : Nat) : si μZ a j 0 = μZ := by
  unfold si μZ
  apply Prod.ext
  · funext b
    by_cases h : b = a
    · simp only [h, if_pos]; funext i; simp [upd]
    · simp [h]
  · rfl
/-- the same place in the machine, other addresses -/
def nG (Γ : GT) (ad : Nat → Nat) : GT :=
  (Γ.1, Γ.2.1, Γ.2.2.1, Γ.2.2.2.1, Γ.2.2.2.2.1, Γ.2.2.2.2.2.1, Γ.2.2.2.2.2.2.1, Γ.2.2.2.2.2.2.2.1, Γ.2.2.2.2.2.2.2.2.1, Γ.2.2.2.2.2.2.2.2.2.1, Γ.2.2.2.2.2.2.2.2.2.2.1, Γ.2.2.2.2.2.2.2.2.2.2.2.1, Γ.2.2.2.2.2.2.2.2.2.2.2.2.1, Γ.2.2.2.2.2.2.2.2.2.2.2.2.2.1, Γ.2.2.2.2.2.2.2.2.2.2.2.2.2.2.1, ad, Γ.2.2.2.2.2.2.2.2.2.2.2.2.2.2.2.2.1, Γ.2.2.2.2.2.2.2.2.2.2.2.2.2.2.2.2.2)
def alOK (Γ : GT) : Prop := match Γ with
  | (_, _, _, _, _, _, _, _, _, _, _, H0, _, _, _, _, A, _) => ∀ q, H0.size ≤ q → A q
def inInit (Γ : GT) : Prop := match Γ with
  | (_, _, _, _, _, _, _, _, meth, _) => meth.name = "<init>"
theorem kX_nG {Γ : GT} {ad : Nat → Nat} {k n : Nat} (h : kX Γ k n) : kX (nG Γ ad) k n := by
  obtain ⟨p, l, e, R, s, m, args, below, meth, c, Q, H0, dC, dI, Y, ad0, A, nL⟩ := Γ
  have h2 : k ≤ R.cells ∧ n ≤ R.slots := h
  show k ≤ R.cells ∧ n ≤ R.slots
  exact h2
theorem alOK_nG {Γ : GT} {ad : Nat → Nat} (h : alOK Γ) : alOK (nG Γ ad) := by
  obtain ⟨p, l, e, R, s, m, args, below, meth, c, Q, H0, dC, dI, Y, ad0, A, nL⟩ := Γ
  have h2 : ∀ q, H0.size ≤ q → A q := h
  show ∀ q, H0.size ≤ q → A q
  exact h2
theorem inInit_nG {Γ : GT} {ad : Nat → Nat} (h : inInit Γ) : inInit (nG Γ ad) := by
  obtain ⟨p, l, e, R, s, m, args, below, meth, c, Q, H0, dC, dI, Y, ad0, A, nL⟩ := Γ
  have h2 : meth.name = "<init>" := h
  show meth.name = "<init>"
  exact h2
theorem nG_mk {p l e R s m args below meth c Q H0 dC dI Y ad A nL} (ad' : Nat → Nat) : nG (p, l, e, R, s, m, args, below, meth, c, Q, H0, dC, dI, Y, ad, A, nL) ad' = (p, l, e, R, s, m, args, below, meth, c, Q, H0, dC, dI, Y, ad', A, nL) := rfl
theorem nG_self (Γ : GT) : nG Γ (gad Γ) = Γ := by
  obtain ⟨p, l, e, R, s, m, args, below, meth, c, Q, H0, dC, dI, Y, ad0, A, nL⟩ := Γ; rfl
/-- references lie within -/
def rIn (m : Nat) : LC → Bool
  | .inl q => q.2.all fun s => match s with
    | some (some r) => decide (r < m)
    | _ => true
  | .inr q => q.2.2.all fun s => match s with
    | some r => decide (r < m)
    | none => true
def refsIn (L : LY) (m : Nat) : Bool := L.all (rIn m)
theorem cE_congr {ad ad' : Nat → Nat} {Y : Nat → ClassId} {μ : MI} {k m : Nat} {c : LC} (h : rIn m c = true) (ha : ∀ i, i < m → ad i = ad' i) : cE ad Y μ k c = cE ad' Y μ k c := by
  rcases c with ⟨ci, sl⟩ | ⟨z, n, rs⟩
  · simp only [cE]
    congr 2
    apply List.map_congr_left
    rintro ⟨s, j⟩ hz
    have hs : s ∈ sl := by
      have := List.mem_zipIdx hz
      rw [this.2.2]; exact List.getElem_mem _
    have h1 := List.all_eq_true.mp h s hs
    rcases s with _ | _ | r
    · rfl
    · rfl
    · simp only [decide_eq_true_eq] at h1
      simp [sV, va_rf, ha r h1]
  · rcases z with _ | _ | _ | z
    · rfl
    · rfl
    · rfl
    · simp only [cE]
      congr 3
      simp only [Sum.inr.injEq]
      funext j
      rcases hg : rs.getD j none with _ | r
      · rfl
      · have hm : some r ∈ rs := by
          rw [List.getD_eq_getElem?_getD] at hg
          rcases hj : rs[j]? with _ | w
          · rw [hj] at hg; simp at hg
          · rw [hj] at hg; simp at hg; subst hg; exact List.mem_of_getElem? hj
        have h1 := List.all_eq_true.mp h (some r) hm
        simp only [decide_eq_true_eq] at h1
        simp [ha r h1]
theorem ws_congr {ad ad' : Nat → Nat} {Y : Nat → ClassId} {L : LY} {μ : MI} (h : refsIn L L.length = true) (ha : ∀ i, i < L.length → ad i = ad' i) : wsOf ad Y L μ = wsOf ad' Y L μ := by
  apply List.ext_getElem?
  intro i
  rcases hc : L[i]? with _ | c
  · have h2 : L.length ≤ i := by simpa using hc
    rw [List.getElem?_eq_none (by rw [ws_len]; exact h2), List.getElem?_eq_none (by rw [ws_len]; exact h2)]
  · have hi := (List.getElem?_eq_some_iff.mp hc).1
    rw [ws_at hc, ws_at hc, ha i hi, cE_congr (List.all_eq_true.mp h c (List.mem_of_getElem? hc)) ha]
theorem ws_snoc {ad : Nat → Nat} {Y : Nat → ClassId} {L : LY} {μ : MI} {c : LC} {q : Nat} (h : refsIn L L.length = true) : wsOf (va_up ad L.length q) Y (L ++ [c]) μ = wsOf ad Y L μ ++ [(q, cE (va_up ad L.length q) Y μ L.length c)] := by
  have h1 : ∀ i, i < L.length → ad i = va_up ad L.length q i := fun i hi => by simp [va_up, Nat.ne_of_lt hi]
  rw [ws_congr (ad' := va_up ad L.length q) h h1]
  simp [wsOf, List.zipIdx_append, va_up]
theorem adOK_snoc {A : Nat → Prop} {ad : Nat → Nat} {Y : Nat → ClassId} {L : LY} {μ : MI} {q : Nat} {e : va_E} (h0 : adOK A ad L.length) (hD : va_D A (wsOf ad Y L μ ++ [(q, e)])) : adOK A (va_up ad L.length q) (L.length + 1) := by
  have hlast : (wsOf ad Y L μ ++ [(q, e)])[L.length]? = some (q, e) := by
    rw [List.getElem?_append_right (by rw [ws_len]; exact Nat.le_refl _)]; simp [ws_len]
  have hold : ∀ i, i < L.length → ∃ x, (wsOf ad Y L μ ++ [(q, e)])[i]? = some (ad i, x) := fun i hi =>
    ⟨_, by rw [List.getElem?_append_left (by rw [ws_len]; exact hi)]; exact ws_at (List.getElem?_eq_getElem hi)⟩
  refine ⟨fun i j hi hj e => ?_, fun i hi => ?_⟩
  · by_cases h1 : i = L.length <;> by_cases h2 : j = L.length
    · omega
    · exfalso
      have hj' : j < L.length := by omega
      simp [va_up, h1, h2] at e
      obtain ⟨x, hx⟩ := hold j hj'
      have := hD.1 L.length j _ _ hlast hx e
      omega
    · exfalso
      have hi' : i < L.length := by omega
      simp [va_up, h1, h2] at e
      obtain ⟨x, hx⟩ := hold i hi'
      have := hD.1 i L.length _ _ hx hlast e
      omega
    · simp [va_up, h1, h2] at e
      exact h0.1 i j (by omega) (by omega) e
  · by_cases h1 : i = L.length
    · simp [va_up, h1]; exact hD.2 _ _ hlast
    · simp [va_up, h1]; exact h0.2 i (by omega)
def NK : List (String × Nat × MethodName × String) := [(RX9, 9, yX2_init, "NoTwoTouch"), (RX9, 34, yX3_init, "NoTwoTouch"), (RX9, 41, yX7_init, "NoTwoTouch"), (RX9, 48, yX5_init, "NoTwoTouch"), (RX9, 55, yX0_init, "NoTwoTouch"), (RX9, 62, yX6_init, "NoTwoTouch"), (RX9, 69, yX1_init, "NoTwoTouch"), (RX9, 74, yX8_init, "NoTwoTouch"), (RX8, 23, yX4_init, "NoTwoTouch")]
/-- words that the lists do not carry along -/
def nwOK (U : State) : Prop := va_AO RX8 U ∧ ∀ q ∈ NK, va_Nw (.methodLinkNest q.1 q.2.1 q.2.2.1 q.2.2.2) U
theorem nwOK.warm {s U : State} (hW : s.WarmedH U.vm) (h : nwOK s) : nwOK U := ⟨va_AO.moved hW.alike h.1, fun q hq => va_Nw.warmM hW (h.2 q hq)⟩
theorem nwOK.calls {U : State} {g : JFrame} {mk : MethodId} {a : Array Value} (h : nwOK U) : nwOK (U.calling g mk a) := ⟨va_AO.moved (u := U) (Vm.Alike.refl U.vm) h.1, fun q hq => va_Nw.same rfl rfl (h.2 q hq)⟩
def slOK (ty : Nat → FieldType) (sl : List (Option (Option Nat))) (N : Nat) : Prop := sl.length = N ∧ ∀ j, j < N → (sl[j]? = some none ∧ defaultValue (ty j) = .int 0) ∨ (sl[j]? = some (some none) ∧ defaultValue (ty j) = .null)
theorem RA_eq {s : State} {a b : ClassId} {ty : FieldType} (h1 : va_RA s a ty) (h2 : va_RA s b ty) : a = b := by
  cases ty with
  | object C =>
    obtain ⟨_, _, _, _, _, h3⟩ := h1
    obtain ⟨_, _, _, _, _, h4⟩ := h2
    exact Option.some.inj (h3.symm.trans h4)
  | _ => exact Option.some.inj (Eq.trans (Eq.symm h1) h2)

