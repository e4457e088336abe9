theorem GX_newQ {Γ : GT} {cc : ByteArray} {own : String} {L : LY} {d nL0 k n : Nat} {lv : List (Option Value)} {st : List Value} {pc : Nat} (hC : CX Γ cc own L d nL0) {z : Int32} {ix : Nat} (N : Nat) (hal : alOK Γ) (hcl : Cond.classLink own ix RX8 ∈ TT) (hao2 : va_AO RX8 (Γ.2.2.2.2.1)) (hz : ¬ z < 0) (hN : z.toNatClampNeg = N) (hby : N * 4 ≤ 536870912) (hr : refsIn L L.length = true) (hk : kX Γ (k + 1) (n + N)) (hd : decode cc pc = .ok (.anewarray ix, 3))
    (lvf : (Nat → Nat) → List (Option Value)) (stf : (Nat → Nat) → List Value) (hlv : lv = lvf (gad Γ)) (hst : st = stf (gad Γ)) (hcg : ∀ a b : Nat → Nat, (∀ i, i < L.length → a i = b i) → lvf a = lvf b ∧ stf a = stf b)
    (kk : ∀ ad' : Nat → Nat, (∀ i, i < L.length → ad' i = gad Γ i) → CX (nG Γ ad') cc own (L ++ [.inr (3, N, [])]) d nL0 → GX (nG Γ ad') (L ++ [.inr (3, N, [])]) (k + 1) (n + N) (lvf ad') (.ref (ad' L.length) :: stf ad') μZ (pc + 3)) : GX Γ L k n lv (.int z :: st) μZ pc := by
  obtain ⟨p, l, e, R, s, m, args, below, meth, c, Q, H0, dC, dI, Y, ad, A, nL⟩ := Γ
  obtain ⟨hx, hb, hml, hown, hts, hK, hA, hd1, hd2, hnl⟩ := hC
  intro H locs ls hP hS hl
  simp only [nG_mk] at kk
  subst hlv; subst hst
  refine va_newq (C := RX8) hx hb hown (hts _ hcl) hao2 hK hP (hA.D Y μZ) hS hal hz hN hby hk.1 hk.2 hd (fun q cA H1 hK1 hP1 hD1 hS1 => ?_)
  have hcA : cA = Y 3 := RA_eq (hK1.2 4 (cA, .object RX8) rfl).2 (hK.2 3 (Y 3, .object RX8) rfl).2
  subst hcA
  · have hP1 := hP1
    have ha : ∀ i, i < L.length → va_up ad L.length q i = ad i := fun i hi => by simp [va_up, Nat.ne_of_lt hi]
    have hA' : adOK A (va_up ad L.length q) (L.length + 1) := adOK_snoc hA hD1
    obtain ⟨g1, g2⟩ := hcg ad (va_up ad L.length q) (fun i hi => (ha i hi).symm)
    have hws1 := ws_snoc (ad := ad) (Y := Y) (μ := μZ) (c := .inr (3, N, [])) (q := q) hr
    have := kk (va_up ad L.length q) ha ⟨hx, hb, hml, hown, hts, hK, by simpa using hA', hd1, hd2, hnl⟩ H1 locs ls (by rw [hws1]; exact hP1) hS1 (by rw [← g1]; exact hl)
    simp only [va_up, if_pos] at this
    have g2' : stf ad = stf (va_up ad L.length q) := g2
    show W p l e R s m args below meth c H1 locs (k + 1) (n + N) Q (F0 m (pc + 3) ls (.ref q :: stf ad))
    rw [g2']
    exact this

