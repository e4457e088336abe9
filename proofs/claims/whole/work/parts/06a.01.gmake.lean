theorem GX_newO {Γ : GT} {cc : ByteArray} {own : String} {L : LY} {d nL0 k n : Nat} {lv : List (Option Value)} {st : List Value} {pc : Nat} (hC : CX Γ cc own L d nL0) {C : String} {T : u_T} {N ix ci : Nat} {ty : Nat → FieldType} (sl : List (Option (Option Nat))) (hal : alOK Γ) (hcl : Cond.classLink own ix C ∈ TT) (hin : Cond.instantiable C N ∈ TT) (hini : Cond.initialized C ∈ TT) (hws : ∀ w ∈ u_ws C T N, w ∈ TT) (hty : ∀ k, k < N → parseFieldDescriptor (T k).2.2.1 = some (ty k)) (hci : vwCl[ci]? = some (C, T, N)) (hsl : slOK ty sl N) (hr : refsIn L L.length = true) (hk : kX Γ (k + 1) (n + N)) (hd : decode cc pc = .ok (.new ix, 3))
    (lvf : (Nat → Nat) → List (Option Value)) (stf : (Nat → Nat) → List Value) (hlv : lv = lvf (gad Γ)) (hst : st = stf (gad Γ)) (hcg : ∀ a b : Nat → Nat, (∀ i, i < L.length → a i = b i) → lvf a = lvf b ∧ stf a = stf b)
    (kk : ∀ ad' : Nat → Nat, (∀ i, i < L.length → ad' i = gad Γ i) → CX (nG Γ ad') cc own (L ++ [.inl (ci, sl)]) d nL0 → GX (nG Γ ad') (L ++ [.inl (ci, sl)]) (k + 1) (n + N) (lvf ad') (.ref (ad' L.length) :: stf ad') μZ (pc + 3)) : GX Γ L k n lv st μZ pc := by
  obtain ⟨p, l, e, R, s, m, args, below, meth, c, Q, H0, dC, dI, Y, ad, A, nL⟩ := Γ
  obtain ⟨hx, hb, hml, hown, hts, hK, hA, hd1, hd2, hnl⟩ := hC
  intro H locs ls hP hS hl
  simp only [nG_mk] at kk
  subst hlv; subst hst
  refine va_new (ci := ci) (fs := sl.zipIdx.map fun z => sV ad (μZ.1 L.length z.2) z.1) hx hb hts hws ty hty hown (hts _ hcl) (hts _ hin) (hts _ hini) hK hP (hA.D Y μZ) hS hal hci (fun j hj => ?_) hk.1 hk.2 hd (fun q H1 hP1 hD1 hS1 => ?_)
  · rcases hsl.2 j hj with ⟨h1, h2⟩ | ⟨h1, h2⟩ <;> rw [h2] <;> simp [vp_V, h1, sV, μZ, va_rf]
  · have hP1 := hP1
    have ha : ∀ i, i < L.length → va_up ad L.length q i = ad i := fun i hi => by simp [va_up, Nat.ne_of_lt hi]
    have hA' : adOK A (va_up ad L.length q) (L.length + 1) := adOK_snoc hA hD1
    obtain ⟨g1, g2⟩ := hcg ad (va_up ad L.length q) (fun i hi => (ha i hi).symm)
    have hce : cE (va_up ad L.length q) Y μZ L.length (.inl (ci, sl)) = .inr (ci, sl.zipIdx.map fun z => sV ad (μZ.1 L.length z.2) z.1) := by
      simp only [cE]
      congr 2
      apply List.map_congr_left
      rintro ⟨z, j⟩ hz
      have hm := List.mem_zipIdx hz
      have hj : j < N := by rw [← hsl.1]; have := hm.2.1; omega
      have hz2 : sl[j]? = some z := by
        have := hm.2.2; simp at this
        rw [this]; exact List.getElem?_eq_getElem _
      rcases hsl.2 j hj with ⟨h1, h2⟩ | ⟨h1, h2⟩ <;> rw [h1] at hz2 <;> cases hz2 <;> rfl
    have hws1 := ws_snoc (ad := ad) (Y := Y) (μ := μZ) (c := .inl (ci, sl)) (q := q) hr
    rw [hce] at hws1
    have := kk (va_up ad L.length q) ha ⟨hx, hb, hml, hown, hts, hK, by simpa using hA', hd1, hd2, hnl⟩ H1 locs ls (by rw [← hws1] at hP1; exact hP1) hS1 (by rw [← g1]; exact hl)
    simp only [va_up, if_pos] at this
    have g2' : stf ad = stf (va_up ad L.length q) := g2
    show W p l e R s m args below meth c H1 locs (k + 1) (n + N) Q (F0 m (pc + 3) ls (.ref q :: stf ad))
    rw [g2']
    exact this

