theorem GX_aast {Γ : GT} {cc : ByteArray} {own : String} {L : LY} {d nL0 k n : Nat} {lv : List (Option Value)} {st : List Value} {pc : Nat} (hC : CX Γ cc own L d nL0) {a b N ci : Nat} {i : Int32} {rs : List (Option Nat)} {μ : MI} {T : u_T} {NN : Nat} {s : List (Option (Option Nat))} (hcell : L[a]? = some (.inr (3, N, rs))) (hv : L[b]? = some (.inl (ci, s))) (hci : vwCl[ci]? = some (RX8, T, NN)) (hi : 0 ≤ i ∧ i.toNatClampNeg < N) (rs' : List (Option Nat)) (hrs : ∀ z : Nat, rs'.getD z none = if z = i.toNatClampNeg then some b else rs.getD z none) (hd : decode cc pc = .ok (.aastore, 1))
    (kk : CX Γ cc own (L.set a (.inr (3, N, rs'))) d nL0 → GX Γ (L.set a (.inr (3, N, rs'))) k n lv st μ (pc + 1)) : GX Γ L k n lv (.ref (gad Γ b) :: .int i :: .ref (gad Γ a) :: st) μ pc := by
  obtain ⟨p, l, e, R, s, m, args, below, meth, c, Q, H0, dC, dI, Y, ad, A, nL⟩ := Γ
  obtain ⟨hx, hb, hml, hown, hts, hK, hA, hd1, hd2, hnl⟩ := hC
  intro H locs ls hP hS hl
  refine va_astq hx hb hK hP (hA.D Y μ) hS a 3 b ci (ws_at hcell) rfl (ws_at hv) hci (vp_in_of2 hi) hd (fun H1 locs1 hP1 _ hS1 => kk ⟨hx, hb, hml, hown, hts, hK, by simpa using hA, hd1, hd2, hnl⟩ H1 locs1 ls ?_ hS1 hl)
  rw [← ws_setc (List.getElem?_eq_some_iff.mp hcell).1]
  have e : (va_up (fun j => (rs.getD j none).map ad) i.toNatClampNeg (some (ad b))) = fun j => (rs'.getD j none).map ad := by
    funext j
    rw [hrs j]
    by_cases h : j = i.toNatClampNeg
    · simp [va_up, h]
    · simp [va_up, h]
  rw [e] at hP1
  exact hP1
