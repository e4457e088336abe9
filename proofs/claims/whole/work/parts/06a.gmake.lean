/-! ===== cells that are made: the addresses grow ===== -/
def μZ : MI := (fun _ _ => 0, fun _ _ => 0)
theorem si_Z (a j : Nat) : si μZ a j 0 = μZ := by
  unfold si μZ
  apply Prod.ext
  · funext b
    by_cases h : b = a
    · simp only [h, if_pos]; funext i; simp [upd]
    · simp [h]
  · rfl
/-- the same place in the machine, other addresses -/
def nG (Γ : GT) (ad : Nat → Nat) : GT :=
  (Γ.1, Γ.2.1, Γ.2.2.1, Γ.2.2.2.1, Γ.2.2.2.2.1, Γ.2.2.2.2.2.1, Γ.2.2.2.2.2.2.1, Γ.2.2.2.2.2.2.2.1, Γ.2.2.2.2.2.2.2.2.1, Γ.2.2.2.2.2.2.2.2.2.1, Γ.2.2.2.2.2.2.2.2.2.2.1, Γ.2.2.2.2.2.2.2.2.2.2.2.1, Γ.2.2.2.2.2.2.2.2.2.2.2.2.1, Γ.2.2.2.2.2.2.2.2.2.2.2.2.2.1, Γ.2.2.2.2.2.2.2.2.2.2.2.2.2.2.1, ad, Γ.2.2.2.2.2.2.2.2.2.2.2.2.2.2.2.2.1, Γ.2.2.2.2.2.2.2.2.2.2.2.2.2.2.2.2.2)
def alOK (Γ : GT) : Prop := match Γ with
  | (_, _, _, _, _, _, _, _, _, _, _, H0, _, _, _, _, A, _) => ∀ q, H0.size ≤ q → A q
def inInit (Γ : GT) : Prop := match Γ with
  | (_, _, _, _, _, _, _, _, meth, _) => meth.name = "<init>"
theorem kX_nG {Γ : GT} {ad : Nat → Nat} {k n : Nat} (h : kX Γ k n) : kX (nG Γ ad) k n := by
  obtain ⟨p, l, e, R, s, m, args, below, meth, c, Q, H0, dC, dI, Y, ad0, A, nL⟩ := Γ; exact h
theorem alOK_nG {Γ : GT} {ad : Nat → Nat} (h : alOK Γ) : alOK (nG Γ ad) := by
  obtain ⟨p, l, e, R, s, m, args, below, meth, c, Q, H0, dC, dI, Y, ad0, A, nL⟩ := Γ; exact h
theorem inInit_nG {Γ : GT} {ad : Nat → Nat} (h : inInit Γ) : inInit (nG Γ ad) := by
  obtain ⟨p, l, e, R, s, m, args, below, meth, c, Q, H0, dC, dI, Y, ad0, A, nL⟩ := Γ; exact h
theorem nG_mk {p l e R s m args below meth c Q H0 dC dI Y ad A nL} (ad' : Nat → Nat) : nG (p, l, e, R, s, m, args, below, meth, c, Q, H0, dC, dI, Y, ad, A, nL) ad' = (p, l, e, R, s, m, args, below, meth, c, Q, H0, dC, dI, Y, ad', A, nL) := rfl
theorem nG_self (Γ : GT) : nG Γ (gad Γ) = Γ := rfl
/-- references lie within -/
def rIn (m : Nat) : LC → Bool
  | .inl q => q.2.all fun s => match s with
    | some (some r) => decide (r < m)
    | _ => true
  | .inr q => q.2.2.all fun s => match s with
    | some r => decide (r < m)
    | none => true
def refsIn (L : LY) (m : Nat) : Bool := L.all (rIn m)
theorem cE_congr {ad ad' : Nat → Nat} {Y : Nat → ClassId} {μ : MI} {k m : Nat} {c : LC} (h : rIn m c = true) (ha : ∀ i, i < m → ad i = ad' i) : cE ad Y μ k c = cE ad' Y μ k c := by
  rcases c with ⟨ci, sl⟩ | ⟨z, n, rs⟩
  · simp only [cE]
    congr 2
    apply List.map_congr_left
    rintro ⟨s, j⟩ hz
    have hs : s ∈ sl := by
      have := List.mem_zipIdx hz
      rw [this.2.2]; exact List.getElem_mem _
    have h1 := List.all_eq_true.mp h s hs
    rcases s with _ | _ | r
    · rfl
    · rfl
    · simp only [decide_eq_true_eq] at h1
      simp [sV, va_rf, ha r h1]
  · rcases z with _ | _ | _ | z
    · rfl
    · rfl
    · rfl
    · simp only [cE]
      congr 3
      simp only [Sum.inr.injEq]
      funext j
      rcases hg : rs.getD j none with _ | r
      · rfl
      · have hm : some r ∈ rs := by
          rw [List.getD_eq_getElem?_getD] at hg
          rcases hj : rs[j]? with _ | w
          · rw [hj] at hg; simp at hg
          · rw [hj] at hg; simp at hg; subst hg; exact List.mem_of_getElem? hj
        have h1 := List.all_eq_true.mp h (some r) hm
        simp only [decide_eq_true_eq] at h1
        simp [ha r h1]
theorem ws_congr {ad ad' : Nat → Nat} {Y : Nat → ClassId} {L : LY} {μ : MI} (h : refsIn L L.length = true) (ha : ∀ i, i < L.length → ad i = ad' i) : wsOf ad Y L μ = wsOf ad' Y L μ := by
  apply List.ext_getElem?
  intro i
  rcases hc : L[i]? with _ | c
  · have h2 : L.length ≤ i := by simpa using hc
    rw [List.getElem?_eq_none (by rw [ws_len]; exact h2), List.getElem?_eq_none (by rw [ws_len]; exact h2)]
  · have hi := (List.getElem?_eq_some_iff.mp hc).1
    rw [ws_at hc, ws_at hc, ha i hi, cE_congr (List.all_eq_true.mp h c (List.mem_of_getElem? hc)) ha]
theorem ws_snoc {ad : Nat → Nat} {Y : Nat → ClassId} {L : LY} {μ : MI} {c : LC} {q : Nat} (h : refsIn L L.length = true) : wsOf (va_up ad L.length q) Y (L ++ [c]) μ = wsOf ad Y L μ ++ [(q, cE (va_up ad L.length q) Y μ L.length c)] := by
  have h1 : ∀ i, i < L.length → ad i = va_up ad L.length q i := fun i hi => by simp [va_up, Nat.ne_of_lt hi]
  rw [ws_congr (ad' := va_up ad L.length q) h h1]
  simp [wsOf, List.zipIdx_append, va_up]
theorem adOK_snoc {A : Nat → Prop} {ad : Nat → Nat} {Y : Nat → ClassId} {L : LY} {μ : MI} {q : Nat} {e : va_E} (h0 : adOK A ad L.length) (hD : va_D A (wsOf ad Y L μ ++ [(q, e)])) : adOK A (va_up ad L.length q) (L.length + 1) := by
  have hlast : (wsOf ad Y L μ ++ [(q, e)])[L.length]? = some (q, e) := by
    rw [List.getElem?_append_right (by rw [ws_len]; exact Nat.le_refl _)]; simp [ws_len]
  have hold : ∀ i, i < L.length → ∃ x, (wsOf ad Y L μ ++ [(q, e)])[i]? = some (ad i, x) := fun i hi =>
    ⟨_, by rw [List.getElem?_append_left (by rw [ws_len]; exact hi)]; exact ws_at (List.getElem?_eq_getElem hi)⟩
  refine ⟨fun i j hi hj e => ?_, fun i hi => ?_⟩
  · by_cases h1 : i = L.length <;> by_cases h2 : j = L.length
    · omega
    · exfalso
      have hj' : j < L.length := by omega
      simp [va_up, h1, h2] at e
      obtain ⟨x, hx⟩ := hold j hj'
      have := hD.1 L.length j _ _ hlast hx e
      omega
    · exfalso
      have hi' : i < L.length := by omega
      simp [va_up, h1, h2] at e
      obtain ⟨x, hx⟩ := hold i hi'
      have := hD.1 i L.length _ _ hx hlast e
      omega
    · simp [va_up, h1, h2] at e
      exact h0.1 i j (by omega) (by omega) e
  · by_cases h1 : i = L.length
    · simp [va_up, h1]; exact hD.2 _ _ hlast
    · simp [va_up, h1]; exact h0.2 i (by omega)
def slOK (ty : Nat → FieldType) (sl : List (Option (Option Nat))) (N : Nat) : Prop := sl.length = N ∧ ∀ j, j < N → (sl[j]? = some none ∧ defaultValue (ty j) = .int 0) ∨ (sl[j]? = some (some none) ∧ defaultValue (ty j) = .null)
theorem RA_eq {s : State} {a b : ClassId} {ty : FieldType} (h1 : va_RA s a ty) (h2 : va_RA s b ty) : a = b := by
  cases ty with
  | object C =>
    obtain ⟨_, _, _, _, _, h3⟩ := h1
    obtain ⟨_, _, _, _, _, h4⟩ := h2
    exact Option.some.inj (h3.symm.trans h4)
  | _ => exact Option.some.inj (Eq.trans (Eq.symm h1) h2)

theorem GX_newO {Γ : GT} {cc : ByteArray} {own : String} {L : LY} {d nL0 k n : Nat} {lv : List (Option Value)} {st : List Value} {pc : Nat} (hC : CX Γ cc own L d nL0) {C : String} {T : u_T} {N ix ci : Nat} {ty : Nat → FieldType} (sl : List (Option (Option Nat))) (hal : alOK Γ) (hcl : Cond.classLink own ix C ∈ TT) (hin : Cond.instantiable C N ∈ TT) (hini : Cond.initialized C ∈ TT) (hws : ∀ w ∈ u_ws C T N, w ∈ TT) (hty : ∀ k, k < N → parseFieldDescriptor (T k).2.2.1 = some (ty k)) (hci : vwCl[ci]? = some (C, T, N)) (hsl : slOK ty sl N) (hr : refsIn L L.length = true) (hk : kX Γ (k + 1) (n + N)) (hd : decode cc pc = .ok (.new ix, 3))
    (lvf : (Nat → Nat) → List (Option Value)) (stf : (Nat → Nat) → List Value) (hlv : lv = lvf (gad Γ)) (hst : st = stf (gad Γ)) (hcg : ∀ a b : Nat → Nat, (∀ i, i < L.length → a i = b i) → lvf a = lvf b ∧ stf a = stf b)
    (kk : ∀ ad' : Nat → Nat, (∀ i, i < L.length → ad' i = gad Γ i) → CX (nG Γ ad') cc own (L ++ [.inl (ci, sl)]) d nL0 → GX (nG Γ ad') (L ++ [.inl (ci, sl)]) (k + 1) (n + N) (lvf ad') (.ref (ad' L.length) :: stf ad') μZ (pc + 3)) : GX Γ L k n lv st μZ pc := by
  obtain ⟨p, l, e, R, s, m, args, below, meth, c, Q, H0, dC, dI, Y, ad, A, nL⟩ := Γ
  obtain ⟨hx, hb, hml, hown, hts, hK, hA, hd1, hd2, hnl⟩ := hC
  intro H locs ls hP hS hl
  simp only [nG_mk] at kk
  subst hlv; subst hst
  refine va_new (ci := ci) (fs := sl.zipIdx.map fun z => sV ad (μZ.1 L.length z.2) z.1) hx hb hts hws ty hty hown (hts _ hcl) (hts _ hin) (hts _ hini) hK hP (hA.D Y μZ) hS hal hci (fun j hj => ?_) hk.1 hk.2 hd (fun q H1 hP1 hD1 hS1 => ?_)
  · rcases hsl.2 j hj with ⟨h1, h2⟩ | ⟨h1, h2⟩ <;> rw [h2] <;> simp [vp_V, h1, sV, μZ, va_rf]
  · have hP1 := hP1
    have ha : ∀ i, i < L.length → va_up ad L.length q i = ad i := fun i hi => by simp [va_up, Nat.ne_of_lt hi]
    have hA' : adOK A (va_up ad L.length q) (L.length + 1) := adOK_snoc hA hD1
    obtain ⟨g1, g2⟩ := hcg ad (va_up ad L.length q) (fun i hi => (ha i hi).symm)
    have hce : cE (va_up ad L.length q) Y μZ L.length (.inl (ci, sl)) = .inr (ci, sl.zipIdx.map fun z => sV ad (μZ.1 L.length z.2) z.1) := by
      simp only [cE]
      congr 2
      apply List.map_congr_left
      rintro ⟨z, j⟩ hz
      have hm := List.mem_zipIdx hz
      have hj : j < N := by rw [← hsl.1]; have := hm.2.1; omega
      have hz2 : sl[j]? = some z := by
        have := hm.2.2; simp at this
        rw [this]; exact List.getElem?_eq_getElem _
      rcases hsl.2 j hj with ⟨h1, h2⟩ | ⟨h1, h2⟩ <;> rw [h1] at hz2 <;> cases hz2 <;> rfl
    have hws1 := ws_snoc (ad := ad) (Y := Y) (μ := μZ) (c := .inl (ci, sl)) (q := q) hr
    rw [hce] at hws1
    have := kk (va_up ad L.length q) ha ⟨hx, hb, hml, hown, hts, hK, by simpa using hA', hd1, hd2, hnl⟩ H1 locs ls (by rw [← hws1] at hP1; exact hP1) hS1 (by rw [← g1]; exact hl)
    simp only [va_up, if_pos] at this
    have g2' : stf ad = stf (va_up ad L.length q) := g2
    show W p l e R s m args below meth c H1 locs (k + 1) (n + N) Q (F0 m (pc + 3) ls (.ref q :: stf ad))
    rw [g2']
    exact this

theorem GX_newI {Γ : GT} {cc : ByteArray} {own : String} {L : LY} {d nL0 k n : Nat} {lv : List (Option Value)} {st : List Value} {pc : Nat} (hC : CX Γ cc own L d nL0) {z : Int32} (N : Nat) (hal : alOK Γ) (hac : Cond.arrayClass (newarray.typeOf .int) ∈ TT) (hz : ¬ z < 0) (hN : z.toNatClampNeg = N) (hby : N * componentBytes .int ≤ 536870912) (hr : refsIn L L.length = true) (hk : kX Γ (k + 1) (n + N)) (hd : decode cc pc = .ok (.newarray .int, 2))
    (lvf : (Nat → Nat) → List (Option Value)) (stf : (Nat → Nat) → List Value) (hlv : lv = lvf (gad Γ)) (hst : st = stf (gad Γ)) (hcg : ∀ a b : Nat → Nat, (∀ i, i < L.length → a i = b i) → lvf a = lvf b ∧ stf a = stf b)
    (kk : ∀ ad' : Nat → Nat, (∀ i, i < L.length → ad' i = gad Γ i) → CX (nG Γ ad') cc own (L ++ [.inr (0, N, [])]) d nL0 → GX (nG Γ ad') (L ++ [.inr (0, N, [])]) (k + 1) (n + N) (lvf ad') (.ref (ad' L.length) :: stf ad') μZ (pc + 2)) : GX Γ L k n lv (.int z :: st) μZ pc := by
  obtain ⟨p, l, e, R, s, m, args, below, meth, c, Q, H0, dC, dI, Y, ad, A, nL⟩ := Γ
  obtain ⟨hx, hb, hml, hown, hts, hK, hA, hd1, hd2, hnl⟩ := hC
  intro H locs ls hP hS hl
  simp only [nG_mk] at kk
  subst hlv; subst hst
  refine va_newa (atype := .int) (ty := .int) (a0 := (N, .inl (fun _ => 0))) hx hb (hts _ hac) rfl hK hP (hA.D Y μZ) hS hal (fun _ => rfl) hz hN hby hk.1 hk.2 hd (fun q cA H1 hK1 hP1 hD1 hS1 => ?_)
  have hcA : cA = Y 0 := RA_eq (hK1.2 4 (cA, .int) rfl).2 (hK.2 0 (Y 0, .int) rfl).2
  subst hcA
  · have hP1 := hP1
    have ha : ∀ i, i < L.length → va_up ad L.length q i = ad i := fun i hi => by simp [va_up, Nat.ne_of_lt hi]
    have hA' : adOK A (va_up ad L.length q) (L.length + 1) := adOK_snoc hA hD1
    obtain ⟨g1, g2⟩ := hcg ad (va_up ad L.length q) (fun i hi => (ha i hi).symm)
    have hws1 := ws_snoc (ad := ad) (Y := Y) (μ := μZ) (c := .inr (0, N, [])) (q := q) hr
    have := kk (va_up ad L.length q) ha ⟨hx, hb, hml, hown, hts, hK, by simpa using hA', hd1, hd2, hnl⟩ H1 locs ls (by rw [hws1]; exact hP1) hS1 (by rw [← g1]; exact hl)
    simp only [va_up, if_pos] at this
    have g2' : stf ad = stf (va_up ad L.length q) := g2
    show W p l e R s m args below meth c H1 locs (k + 1) (n + N) Q (F0 m (pc + 2) ls (.ref q :: stf ad))
    rw [g2']
    exact this

theorem GX_newZ {Γ : GT} {cc : ByteArray} {own : String} {L : LY} {d nL0 k n : Nat} {lv : List (Option Value)} {st : List Value} {pc : Nat} (hC : CX Γ cc own L d nL0) {z : Int32} (N : Nat) (hal : alOK Γ) (hac : Cond.arrayClass (newarray.typeOf .boolean) ∈ TT) (hz : ¬ z < 0) (hN : z.toNatClampNeg = N) (hby : N * componentBytes .boolean ≤ 536870912) (hr : refsIn L L.length = true) (hk : kX Γ (k + 1) (n + N)) (hd : decode cc pc = .ok (.newarray .boolean, 2))
    (lvf : (Nat → Nat) → List (Option Value)) (stf : (Nat → Nat) → List Value) (hlv : lv = lvf (gad Γ)) (hst : st = stf (gad Γ)) (hcg : ∀ a b : Nat → Nat, (∀ i, i < L.length → a i = b i) → lvf a = lvf b ∧ stf a = stf b)
    (kk : ∀ ad' : Nat → Nat, (∀ i, i < L.length → ad' i = gad Γ i) → CX (nG Γ ad') cc own (L ++ [.inr (1, N, [])]) d nL0 → GX (nG Γ ad') (L ++ [.inr (1, N, [])]) (k + 1) (n + N) (lvf ad') (.ref (ad' L.length) :: stf ad') μZ (pc + 2)) : GX Γ L k n lv (.int z :: st) μZ pc := by
  obtain ⟨p, l, e, R, s, m, args, below, meth, c, Q, H0, dC, dI, Y, ad, A, nL⟩ := Γ
  obtain ⟨hx, hb, hml, hown, hts, hK, hA, hd1, hd2, hnl⟩ := hC
  intro H locs ls hP hS hl
  simp only [nG_mk] at kk
  subst hlv; subst hst
  refine va_newa (atype := .boolean) (ty := .boolean) (a0 := (N, .inl (fun _ => 0))) hx hb (hts _ hac) rfl hK hP (hA.D Y μZ) hS hal (fun _ => rfl) hz hN hby hk.1 hk.2 hd (fun q cA H1 hK1 hP1 hD1 hS1 => ?_)
  have hcA : cA = Y 1 := RA_eq (hK1.2 4 (cA, .boolean) rfl).2 (hK.2 1 (Y 1, .boolean) rfl).2
  subst hcA
  · have hP1 := hP1
    have ha : ∀ i, i < L.length → va_up ad L.length q i = ad i := fun i hi => by simp [va_up, Nat.ne_of_lt hi]
    have hA' : adOK A (va_up ad L.length q) (L.length + 1) := adOK_snoc hA hD1
    obtain ⟨g1, g2⟩ := hcg ad (va_up ad L.length q) (fun i hi => (ha i hi).symm)
    have hws1 := ws_snoc (ad := ad) (Y := Y) (μ := μZ) (c := .inr (1, N, [])) (q := q) hr
    have := kk (va_up ad L.length q) ha ⟨hx, hb, hml, hown, hts, hK, by simpa using hA', hd1, hd2, hnl⟩ H1 locs ls (by rw [hws1]; exact hP1) hS1 (by rw [← g1]; exact hl)
    simp only [va_up, if_pos] at this
    have g2' : stf ad = stf (va_up ad L.length q) := g2
    show W p l e R s m args below meth c H1 locs (k + 1) (n + N) Q (F0 m (pc + 2) ls (.ref q :: stf ad))
    rw [g2']
    exact this

theorem GX_newL {Γ : GT} {cc : ByteArray} {own : String} {L : LY} {d nL0 k n : Nat} {lv : List (Option Value)} {st : List Value} {pc : Nat} (hC : CX Γ cc own L d nL0) {z : Int32} (N : Nat) (hal : alOK Γ) (hac : Cond.arrayClass (newarray.typeOf .long) ∈ TT) (hz : ¬ z < 0) (hN : z.toNatClampNeg = N) (hby : N * componentBytes .long ≤ 536870912) (hr : refsIn L L.length = true) (hk : kX Γ (k + 1) (n + N)) (hd : decode cc pc = .ok (.newarray .long, 2))
    (lvf : (Nat → Nat) → List (Option Value)) (stf : (Nat → Nat) → List Value) (hlv : lv = lvf (gad Γ)) (hst : st = stf (gad Γ)) (hcg : ∀ a b : Nat → Nat, (∀ i, i < L.length → a i = b i) → lvf a = lvf b ∧ stf a = stf b)
    (kk : ∀ ad' : Nat → Nat, (∀ i, i < L.length → ad' i = gad Γ i) → CX (nG Γ ad') cc own (L ++ [.inr (2, N, [])]) d nL0 → GX (nG Γ ad') (L ++ [.inr (2, N, [])]) (k + 1) (n + N) (lvf ad') (.ref (ad' L.length) :: stf ad') μZ (pc + 2)) : GX Γ L k n lv (.int z :: st) μZ pc := by
  obtain ⟨p, l, e, R, s, m, args, below, meth, c, Q, H0, dC, dI, Y, ad, A, nL⟩ := Γ
  obtain ⟨hx, hb, hml, hown, hts, hK, hA, hd1, hd2, hnl⟩ := hC
  intro H locs ls hP hS hl
  simp only [nG_mk] at kk
  subst hlv; subst hst
  refine va_newa (atype := .long) (ty := .long) (a0 := (N, .inr (.inl (fun _ => 0)))) hx hb (hts _ hac) rfl hK hP (hA.D Y μZ) hS hal (fun _ => rfl) hz hN hby hk.1 hk.2 hd (fun q cA H1 hK1 hP1 hD1 hS1 => ?_)
  have hcA : cA = Y 2 := RA_eq (hK1.2 4 (cA, .long) rfl).2 (hK.2 2 (Y 2, .long) rfl).2
  subst hcA
  · have hP1 := hP1
    have ha : ∀ i, i < L.length → va_up ad L.length q i = ad i := fun i hi => by simp [va_up, Nat.ne_of_lt hi]
    have hA' : adOK A (va_up ad L.length q) (L.length + 1) := adOK_snoc hA hD1
    obtain ⟨g1, g2⟩ := hcg ad (va_up ad L.length q) (fun i hi => (ha i hi).symm)
    have hws1 := ws_snoc (ad := ad) (Y := Y) (μ := μZ) (c := .inr (2, N, [])) (q := q) hr
    have := kk (va_up ad L.length q) ha ⟨hx, hb, hml, hown, hts, hK, by simpa using hA', hd1, hd2, hnl⟩ H1 locs ls (by rw [hws1]; exact hP1) hS1 (by rw [← g1]; exact hl)
    simp only [va_up, if_pos] at this
    have g2' : stf ad = stf (va_up ad L.length q) := g2
    show W p l e R s m args below meth c H1 locs (k + 1) (n + N) Q (F0 m (pc + 2) ls (.ref q :: stf ad))
    rw [g2']
    exact this

theorem GX_newQ {Γ : GT} {cc : ByteArray} {own : String} {L : LY} {d nL0 k n : Nat} {lv : List (Option Value)} {st : List Value} {pc : Nat} (hC : CX Γ cc own L d nL0) {z : Int32} {ix : Nat} (N : Nat) (hal : alOK Γ) (hcl : Cond.classLink own ix RX8 ∈ TT) (hao : Cond.arrayOver (.object RX8) ∈ lw_tbl) (hao2 : va_AO RX8 (Γ.2.2.2.2.1)) (hz : ¬ z < 0) (hN : z.toNatClampNeg = N) (hby : N * 4 ≤ 536870912) (hr : refsIn L L.length = true) (hk : kX Γ (k + 1) (n + N)) (hd : decode cc pc = .ok (.anewarray ix, 3))
    (lvf : (Nat → Nat) → List (Option Value)) (stf : (Nat → Nat) → List Value) (hlv : lv = lvf (gad Γ)) (hst : st = stf (gad Γ)) (hcg : ∀ a b : Nat → Nat, (∀ i, i < L.length → a i = b i) → lvf a = lvf b ∧ stf a = stf b)
    (kk : ∀ ad' : Nat → Nat, (∀ i, i < L.length → ad' i = gad Γ i) → CX (nG Γ ad') cc own (L ++ [.inr (3, N, [])]) d nL0 → GX (nG Γ ad') (L ++ [.inr (3, N, [])]) (k + 1) (n + N) (lvf ad') (.ref (ad' L.length) :: stf ad') μZ (pc + 3)) : GX Γ L k n lv (.int z :: st) μZ pc := by
  obtain ⟨p, l, e, R, s, m, args, below, meth, c, Q, H0, dC, dI, Y, ad, A, nL⟩ := Γ
  obtain ⟨hx, hb, hml, hown, hts, hK, hA, hd1, hd2, hnl⟩ := hC
  intro H locs ls hP hS hl
  simp only [nG_mk] at kk
  subst hlv; subst hst
  refine va_newq (C := RX8) hx hb hown (hts _ hcl) hao2 hK hP (hA.D Y μZ) hS hal hz hN hby hk.1 hk.2 hd (fun q cA H1 hK1 hP1 hD1 hS1 => ?_)
  have hcA : cA = Y 3 := RA_eq (hK1.2 4 (cA, .object RX8) rfl).2 (hK.2 3 (Y 3, .object RX8) rfl).2
  subst hcA
  · have hP1 := hP1
    have ha : ∀ i, i < L.length → va_up ad L.length q i = ad i := fun i hi => by simp [va_up, Nat.ne_of_lt hi]
    have hA' : adOK A (va_up ad L.length q) (L.length + 1) := adOK_snoc hA hD1
    obtain ⟨g1, g2⟩ := hcg ad (va_up ad L.length q) (fun i hi => (ha i hi).symm)
    have hws1 := ws_snoc (ad := ad) (Y := Y) (μ := μZ) (c := .inr (3, N, [])) (q := q) hr
    have := kk (va_up ad L.length q) ha ⟨hx, hb, hml, hown, hts, hK, by simpa using hA', hd1, hd2, hnl⟩ H1 locs ls (by rw [hws1]; exact hP1) hS1 (by rw [← g1]; exact hl)
    simp only [va_up, if_pos] at this
    have g2' : stf ad = stf (va_up ad L.length q) := g2
    show W p l e R s m args below meth c H1 locs (k + 1) (n + N) Q (F0 m (pc + 3) ls (.ref q :: stf ad))
    rw [g2']
    exact this

theorem ws_setc {ad : Nat → Nat} {Y : Nat → ClassId} {L : LY} {μ : MI} {a : Nat} {c : LC} (h : a < L.length) : (wsOf ad Y L μ).set a (ad a, cE ad Y μ a c) = wsOf ad Y (L.set a c) μ := by
  apply List.ext_getElem?
  intro i
  by_cases hi : a = i
  · subst hi
    rw [List.getElem?_set_self (by rw [ws_len]; exact h), ws_at (c := c) (by rw [List.getElem?_set_self h])]
  · rw [List.getElem?_set_ne hi]
    rcases hc : L[i]? with _ | c2
    · have h2 : L.length ≤ i := by simpa using hc
      rw [List.getElem?_eq_none (by rw [ws_len]; exact h2), List.getElem?_eq_none (by rw [ws_len, List.length_set]; exact h2)]
    · rw [ws_at hc, ws_at (L := L.set a c) (c := c2) (by rw [List.getElem?_set_ne hi]; exact hc)]
theorem GX_putR {Γ : GT} {cc : ByteArray} {own : String} {L : LY} {d nL0 k n : Nat} {lv : List (Option Value)} {st : List Value} {pc : Nat} (hC : CX Γ cc own L d nL0) {a b ix ci j : Nat} {sl : List (Option (Option Nat))} {μ : MI} {C : String} {T : u_T} {N : Nat} {ty : FieldType} (hf : fOK own ix ci j) (hnm : inInit Γ) (hci : vwCl[ci]? = some (C, T, N)) (hfin : (T j).2.2.2 = true) (hdecl : (T j).1 = own) (hpd : parseFieldDescriptor (T j).2.2.1 = some ty) (hnar : ∀ x, narrow ty (.ref x) = .ref x) (hfit : ∀ x, fits ty (.ref x) = true) (hcell : L[a]? = some (.inl (ci, sl))) (hs : j < sl.length) (hd : decode cc pc = .ok (.putfield ix, 3))
    (kk : CX Γ cc own (L.set a (.inl (ci, sl.set j (some (some b))))) d nL0 → GX Γ (L.set a (.inl (ci, sl.set j (some (some b))))) k n lv st μ (pc + 3)) : GX Γ L k n lv (.ref (gad Γ b) :: .ref (gad Γ a) :: st) μ pc := by
  obtain ⟨p, l, e, R, s, m, args, below, meth, c, Q, H0, dC, dI, Y, ad, A, nL⟩ := Γ
  obtain ⟨hx, hb, hml, hown, hts, hK, hA, hd1, hd2, hnl⟩ := hC
  intro H locs ls hP hS hl
  obtain ⟨C2, T2, N2, ty2, h1, h2, h3, h4, h5, h6⟩ := hf
  cases h1.symm.trans hci
  have he := ws_at (ad := ad) (Y := Y) (μ := μ) hcell
  refine va_putF (D := (dC, dI)) (v := .ref (ad b)) hx hb hts h4 ty2 h5 h6 hown hK hP (hA.D Y μ) hS a he h1 j h2 (hts _ h3) (fun _ h => h) hfin hnm hdecl hpd (hnar _) (hfit _) (by simpa using hs) hd (fun H1 locs1 hP1 _ hS1 => kk ⟨hx, hb, hml, hown, hts, hK, by simpa using hA, hd1, hd2, hnl⟩ H1 locs1 ls ?_ hS1 hl)
  rw [← ws_setc (List.getElem?_eq_some_iff.mp hcell).1]
  have e : (sl.zipIdx.map fun z => sV ad (μ.1 a z.2) z.1).set j (.ref (ad b)) = (sl.set j (some (some b))).zipIdx.map fun z => sV ad (μ.1 a z.2) z.1 := by
    apply List.ext_getElem?
    intro i
    by_cases hi : j = i
    · subst hi
      rw [List.getElem?_set_self (by simpa using hs)]
      simp [List.getElem?_set_self hs, sV, va_rf]
    · rw [List.getElem?_set_ne hi]
      simp [List.getElem?_set_ne hi]
  rw [e] at hP1
  exact hP1
theorem GX_aast {Γ : GT} {cc : ByteArray} {own : String} {L : LY} {d nL0 k n : Nat} {lv : List (Option Value)} {st : List Value} {pc : Nat} (hC : CX Γ cc own L d nL0) {a b N ci : Nat} {i : Int32} {rs : List (Option Nat)} {μ : MI} {T : u_T} {NN : Nat} {s : List (Option (Option Nat))} (hcell : L[a]? = some (.inr (3, N, rs))) (hv : L[b]? = some (.inl (ci, s))) (hci : vwCl[ci]? = some (RX8, T, NN)) (hi : 0 ≤ i ∧ i.toNatClampNeg < N) (rs' : List (Option Nat)) (hrs : ∀ z : Nat, rs'.getD z none = if z = i.toNatClampNeg then some b else rs.getD z none) (hd : decode cc pc = .ok (.aastore, 1))
    (kk : CX Γ cc own (L.set a (.inr (3, N, rs'))) d nL0 → GX Γ (L.set a (.inr (3, N, rs'))) k n lv st μ (pc + 1)) : GX Γ L k n lv (.ref (gad Γ b) :: .int i :: .ref (gad Γ a) :: st) μ pc := by
  obtain ⟨p, l, e, R, s, m, args, below, meth, c, Q, H0, dC, dI, Y, ad, A, nL⟩ := Γ
  obtain ⟨hx, hb, hml, hown, hts, hK, hA, hd1, hd2, hnl⟩ := hC
  intro H locs ls hP hS hl
  refine va_astq hx hb hK hP (hA.D Y μ) hS a 3 b ci (ws_at hcell) rfl (ws_at hv) hci (vp_in_of2 hi) hd (fun H1 locs1 hP1 _ hS1 => kk ⟨hx, hb, hml, hown, hts, hK, by simpa using hA, hd1, hd2, hnl⟩ H1 locs1 ls ?_ hS1 hl)
  rw [← ws_setc (List.getElem?_eq_some_iff.mp hcell).1]
  have e : (va_up (fun j => (rs.getD j none).map ad) i.toNatClampNeg (some (ad b))) = fun j => (rs'.getD j none).map ad := by
    funext j
    rw [hrs j]
    by_cases h : j = i.toNatClampNeg
    · simp [va_up, h]
    · simp [va_up, h]
  rw [e] at hP1
  exact hP1
def oiOK (own : String) (ix : Nat) : Prop := Cond.methodLink own ix Lib.objectInit ∈ TT ∧ Cond.instanceMethod Lib.objectInit ∈ TT ∧ Cond.code Lib.objectInit ⟨#[0xb1]⟩ 1 none ∈ TT
theorem GX_oinit {Γ : GT} {cc : ByteArray} {own : String} {L : LY} {d nL0 k n : Nat} {lv : List (Option Value)} {st : List Value} {pc : Nat} (hC : CX Γ cc own L d nL0) {ix a : Nat} {μ : MI} (ho : oiOK own ix) (h1 : 1 ≤ d) (hs : (st.map fun v => v.category).sum ≤ 8) (hd : decode cc pc = .ok (.invokespecial ix, 3)) (kk : GX Γ L k n lv st μ (pc + 3)) : GX Γ L k n lv (.ref a :: st) μ pc := by
  obtain ⟨p, l, e, R, s, m, args, below, meth, c, Q, H0, dC, dI, Y, ad, A, nL⟩ := Γ
  obtain ⟨hx, hb, hml, hown, hts, hK, hA, hd1, hd2, hnl⟩ := hC
  intro H locs ls hP hS hl
  refine W.objInit hx hb hown (hts _ ho.1) (hts _ ho.2.1) (hts _ ho.2.2) rfl (by rw [hml]; exact hl.1) rfl hd (by omega) ?_ (kk H locs ls hP hS hl)
  have : 2 * (F0 m pc ls (.ref a :: st)).monitorRoom + (st.map fun v => v.category).sum ≤ 8 := lv_room hs
  omega
/-! ===== contracts of constructors ===== -/
def rmI (d mc ms : Nat) : Room := { frames := d, cells := mc, slots := ms, locals := 100 * d }
def ciP (dC : Nat → ClassId) (dI : Nat → Nat → Nat) (Y : Nat → ClassId) (ad : Nat → Nat) (A : Nat → Prop) (L : LY) (U : State) : Prop := cnP dC dI Y ad A L μZ U ∧ (∀ q, U.heap.size ≤ q → A q) ∧ va_AO RX8 U
def ciQ (dC : Nat → ClassId) (dI : Nat → Nat → Nat) (Y : Nat → ClassId) (ad : Nat → Nat) (A : Nat → Prop) (n0 : Nat) (L1 : LY) : Array Value → State → Outcome → State → Prop := fun _ st oc t => oc = .returned none ∧ (∃ ad', (∀ i, i < n0 → ad' i = ad i) ∧ adOK A ad' L1.length ∧ va_P (dC, dI) vwCl (wsOf ad' Y L1 μZ) t.heap) ∧ va_F A st t
def CnI (l : Launch) (y : MethodName) (cc : ByteArray) (maxL d mc ms : Nat) (L0 L1 : LY) (t : Nat) : Prop :=
  ∀ (dC : Nat → ClassId) (dI : Nat → Nat → Nat) (Y : Nat → ClassId) (ad : Nat → Nat) (A : Nat → Prop),
    Met l y (Cond.code y cc maxL none :: TT) (rmI d mc ms) (va_Pc [.ref (ad t)] (ciP dC dI Y ad A L0)) (ciQ dC dI Y ad A L0.length L1) mc ms A
def RXI (Γ : GT) (n0 mc ms : Nat) (ad0 : Nat → Nat) (L1 : LY) : Prop :=
  match Γ with
  | (p, l, e, R, s, m, args, below, meth, c, Q, H0, dC, dI, Y, ad, A, nL) => meth.sig.returnType = none ∧ meth.locks = false ∧ H0 = s.heap ∧ Q = MQ below (ciQ dC dI Y ad0 A n0 L1) args s mc ms A
theorem RXI_nG {Γ : GT} {n0 mc ms : Nat} {ad0 ad : Nat → Nat} {L1 : LY} (h : RXI Γ n0 mc ms ad0 L1) : RXI (nG Γ ad) n0 mc ms ad0 L1 := by
  obtain ⟨p, l, e, R, s, m, args, below, meth, c, Q, H0, dC, dI, Y, ad1, A, nL⟩ := Γ; exact h
theorem CnI.of {l : Launch} {y : MethodName} {cc : ByteArray} {maxL d mc ms : Nat} {L0 L1 : LY} {t : Nat} (hy : plainName y.cls = true) (hn : y.name = "<init>") (hm : 1 ≤ maxL)
    (h : ∀ Γ : GT, gln Γ = l → CX Γ cc y.cls L0 d maxL → RXI Γ L0.length mc ms (gad Γ) L1 → (∀ k n, k ≤ mc → n ≤ ms → kX Γ k n) → alOK Γ → inInit Γ → va_AO RX8 (Γ.2.2.2.2.1) → GX Γ L0 0 0 (some (.ref (gad Γ t)) :: List.replicate (maxL - 1) none) [] μZ 0) : CnI l y cc maxL d mc ms L0 L1 t := by
  intro dC dI Y ad A
  refine Met.ofW (cc := cc) (maxL := maxL) (ret := none) hy rfl ?_
  intro p e s m args0 below meth c s₁ B hml hv
  obtain ⟨rfl, ⟨hP, hK, hA⟩, hal, hao⟩ := hv
  have hts := atoms_spec (ws := Cond.code y cc maxL none :: TT) B.pre
  have hown : s.vm.findClass y.cls = some m.cls := findClass_of_methodNamed B.named
  have hin : meth.name = "<init>" := (name_of_methodNamed B.named B.method).1.trans hn
  have hl := lv_entry ([.ref (ad t)]) (n := maxL) hm
  rw [lg_entry_eq]
  have hrep : ∀ (z k : Nat), lvE k (List.replicate z none) = [] := by
    intro z
    induction z with
    | zero => intro k; rfl
    | succ z ih => intro k; simp [List.replicate_succ, lvE, ih]
  have hlv : lvE 0 (some (.ref (ad t)) :: List.replicate (maxL - 1) none) = lv_args 0 [.ref (ad t)] := by
    show (0, Value.ref (ad t)) :: lvE 1 (List.replicate (maxL - 1) none) = _
    rw [hrep]; rfl
  rw [← hlv] at hl
  exact h (p, l, e, rmI d mc ms, s, m, [Value.ref (ad t)].toArray, below, meth, c, MQ below (ciQ dC dI Y ad A L0.length L1) [Value.ref (ad t)].toArray s mc ms A, s.heap, dC, dI, Y, ad, A, maxL) rfl
    ⟨B.exec, B.bytes, hml, hown, fun w hw => hts w (List.mem_cons_of_mem _ hw), hK, hA, Nat.le_refl _, Nat.le_refl _, rfl⟩ ⟨B.returns, B.notSynchronized, rfl, rfl⟩ (fun k n h1 h2 => ⟨h1, h2⟩) hal hin hao s.heap [] _ hP va_S.rf hl
theorem GX_vretI {Γ : GT} {cc : ByteArray} {own : String} {L : LY} {d nL0 k n n0 : Nat} {lv : List (Option Value)} {ad0 : Nat → Nat} {pc : Nat} (hC : CX Γ cc own L d nL0) (hR : RXI Γ n0 k n ad0 L) (hext : ∀ i, i < n0 → gad Γ i = ad0 i) (hd : decode cc pc = .ok (.return_, 1)) : GX Γ L k n lv [] μZ pc := by
  obtain ⟨p, l, e, R, s, m, args, below, meth, c, Q, H0, dC, dI, Y, ad, A, nL⟩ := Γ
  obtain ⟨hx, hb, hml, hown, hts, hK, hA, hd1, hd2, hnl⟩ := hC
  intro H locs ls hP hS hl
  obtain ⟨hr, hlk, hH, hQ⟩ := hR
  subst hH; subst hQ
  exact W.vret hx hb hr (fun t ht hW => ⟨rfl, ⟨ad, hext, hA, by rw [ht]; exact hP⟩, hS.F ht⟩) hS.2.2 hd hlk
/-- a constructor's words -/
def okI (y : MethodName) (cc : ByteArray) (maxL : Nat) : Prop := Cond.code y cc maxL none ∈ TT ∧ Cond.initialized y.cls ∈ TT ∧ Cond.instanceMethod y ∈ TT ∧ (y.cls ≠ "java/lang/invoke/MethodHandle" ∧ y.cls ≠ "java/lang/invoke/VarHandle") ∧ (parseMethodDescriptor y.desc).map (fun d => d.parameters.length) = some 0 ∧ y.name = "<init>"
theorem GX_callI {Γ : GT} {cc : ByteArray} {own : String} {L : LY} {d nL0 k n : Nat} {lv : List (Option Value)} {st : List Value} {pc : Nat} (hC : CX Γ cc own L d nL0) {y : MethodName} {bytes : ByteArray} {maxL d' mc ms ix t : Nat} {L1 : LY}
    (hM : CnI (gln Γ) y bytes maxL d' mc ms L L1 t) (ok : okI y bytes maxL) (hlk : (∃ host, Cond.methodLinkNest own ix y host ∈ TT) ∨ Cond.methodLink own ix y ∈ TT) (hal : alOK Γ) (hao : va_AO RX8 (Γ.2.2.2.2.1))
    (hdd : d' + 1 ≤ d) (hm : maxL ≤ 60) (hk : kX Γ (k + mc) (n + ms)) (hrm : (st.map fun v => v.category).sum ≤ 8) (hd : decode cc pc = .ok (.invokespecial ix, 3))
    (lvf : (Nat → Nat) → List (Option Value)) (stf : (Nat → Nat) → List Value) (hlv : lv = lvf (gad Γ)) (hst : st = stf (gad Γ)) (hcg : ∀ a b : Nat → Nat, (∀ i, i < L.length → a i = b i) → lvf a = lvf b ∧ stf a = stf b)
    (kk : ∀ ad' : Nat → Nat, (∀ i, i < L.length → ad' i = gad Γ i) → CX (nG Γ ad') cc own L1 d nL0 → GX (nG Γ ad') L1 (k + mc) (n + ms) (lvf ad') (stf ad') μZ (pc + 3)) : GX Γ L k n lv (.ref (gad Γ t) :: st) μZ pc := by
  obtain ⟨p, l, e, R, s, m, args, below, meth, c, Q, H0, dC, dI, Y, ad, A, nL⟩ := Γ
  obtain ⟨hx, hb, hml, hown, hts, hK, hA, hd1, hd2, hnl⟩ := hC
  intro H locs ls hP hS hl
  simp only [nG_mk] at kk
  subst hlv; subst hst
  obtain ⟨o1, o2, o3, o5, o6, o7⟩ := ok
  have hws : ∀ w ∈ Cond.code y bytes maxL none :: TT, ∀ (a' : Array Value) (U : State), s.WarmedH U.vm → w.before a' U = true := fun w hw a' U hW => by
    rcases List.mem_cons.mp hw with rfl | hw
    · exact TT_pay hts o1 a' U hW
    · exact TT_pay hts hw a' U hW
  have hlo : 8 + (maxL + 11) + 100 * d' ≤ R.locals := by omega
  have hpre : PreS s H (va_Pc [.ref (ad t)] (ciP dC dI Y ad A L)) [.ref (ad t)] := by
    refine ⟨fun a U g mk q => ?_, fun U hU hW => ⟨rfl, ⟨by rw [hU]; exact hP, va_K.moved hW.alike hK, hA⟩, fun q hq => hal q (Nat.le_trans hS.1 (by rw [← hU]; exact hq)), ?_⟩⟩
    · obtain ⟨q0, ⟨qP, qK, qA⟩, qal, qao⟩ := q
      exact ⟨q0, ⟨qP, va_K.moved (u := U) (U := U.calling g mk a) (Vm.Alike.refl U.vm) qK, qA⟩, qal, va_AO.moved (u := U) (Vm.Alike.refl U.vm) qao⟩
    · exact va_AO.moved hW.alike hao
  have hrun : va_Run p l e R s m args below meth c H locs k n mc ms (F0 m pc ls (.ref (ad t) :: stf ad)) (stf ad) (ciQ dC dI Y ad A L.length L1 [Value.ref (ad t)].toArray) A := by
    rcases hlk with ⟨host, hlk⟩ | hlk
    · exact va_runIN (As := []) (rest := stf ad) (host := host) ⟨hx, hb, hml, hown, hts⟩ (hM dC dI Y ad A)
        ⟨⟨⟨rfl, rfl, Nat.le_trans hdd hd1, hlo, hws, List.mem_cons_self⟩, hts _ o1, hts _ o2, o5, fun sig h => by rw [h] at o6; exact (Option.some.inj o6).symm, hts _ hlk⟩, o7, hts _ o3⟩ hpre rfl rfl (hl.1.trans rfl) rfl (lv_room hrm) hd hk
    · exact va_runI (As := []) (rest := stf ad) ⟨hx, hb, hml, hown, hts⟩ (hM dC dI Y ad A)
        ⟨⟨rfl, rfl, Nat.le_trans hdd hd1, hlo, hws, List.mem_cons_self, hts _ o1, hts _ o2, o5, fun sig h => by rw [h] at o6; exact (Option.some.inj o6).symm, hts _ hlk⟩, o7, hts _ o3⟩ hpre rfl rfl (hl.1.trans rfl) rfl (lv_room hrm) hd hk
  refine va_callG (v0 := none) (PP := fun H1 => ∃ ad' : Nat → Nat, (∀ i, i < L.length → ad' i = ad i) ∧ adOK A ad' L1.length ∧ va_P (dC, dI) vwCl (wsOf ad' Y L1 μZ) H1) hrun (fun st oc t h => h) hS (fun H1 locs1 hP1 hS1 => ?_)
  obtain ⟨ad', ha, hA', hP1⟩ := hP1
  obtain ⟨g1, g2⟩ := hcg ad ad' (fun i hi => (ha i hi).symm)
  have := kk ad' ha ⟨hx, hb, hml, hown, hts, hK, hA', hd1, hd2, hnl⟩ H1 locs1 ls hP1 hS1 (by rw [← g1]; exact hl)
  have g2' : stf ad = stf ad' := g2
  show W p l e R s m args below meth c H1 locs1 (k + mc) (n + ms) Q (F0 m (pc + 3) ls (stf ad))
  rw [g2']
  exact this

