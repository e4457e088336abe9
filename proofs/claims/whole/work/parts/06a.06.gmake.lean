theorem ws_setc {ad : Nat → Nat} {Y : Nat → ClassId} {L : LY} {μ : MI} {a : Nat} {c : LC} (h : a < L.length) : (wsOf ad Y L μ).set a (ad a, cE ad Y μ a c) = wsOf ad Y (L.set a c) μ := by
  apply List.ext_getElem?
  intro i
  by_cases hi : a = i
  · subst hi
    rw [List.getElem?_set_self (by rw [ws_len]; exact h), ws_at (c := c) (by rw [List.getElem?_set_self h])]
  · rw [List.getElem?_set_ne hi]
    rcases hc : L[i]? with _ | c2
    · have h2 : L.length ≤ i := by simpa using hc
      rw [List.getElem?_eq_none (by rw [ws_len]; exact h2), List.getElem?_eq_none (by rw [ws_len, List.length_set]; exact h2)]
    · rw [ws_at hc, ws_at (L := L.set a c) (c := c2) (by rw [List.getElem?_set_ne hi]; exact hc)]
theorem GX_putR {Γ : GT} {cc : ByteArray} {own : String} {L : LY} {d nL0 k n : Nat} {lv : List (Option Value)} {st : List Value} {pc : Nat} (hC : CX Γ cc own L d nL0) {a b ix ci j : Nat} {sl : List (Option (Option Nat))} {μ : MI} {C : String} {T : u_T} {N : Nat} {ty : FieldType} (hf : fOK own ix ci j) (hnm : inInit Γ) (hci : vwCl[ci]? = some (C, T, N)) (hfin : (T j).2.2.2 = true) (hdecl : (T j).1 = own) (hpd : parseFieldDescriptor (T j).2.2.1 = some ty) (hnar : ∀ x, narrow ty (.ref x) = .ref x) (hfit : ∀ x, fits ty (.ref x) = true) (hcell : L[a]? = some (.inl (ci, sl))) (hs : j < sl.length) (hd : decode cc pc = .ok (.putfield ix, 3))
    (kk : CX Γ cc own (L.set a (.inl (ci, sl.set j (some (some b))))) d nL0 → GX Γ (L.set a (.inl (ci, sl.set j (some (some b))))) k n lv st μ (pc + 3)) : GX Γ L k n lv (.ref (gad Γ b) :: .ref (gad Γ a) :: st) μ pc := by
  obtain ⟨p, l, e, R, s, m, args, below, meth, c, Q, H0, dC, dI, Y, ad, A, nL⟩ := Γ
  obtain ⟨hx, hb, hml, hown, hts, hK, hA, hd1, hd2, hnl⟩ := hC
  intro H locs ls hP hS hl
  obtain ⟨C2, T2, N2, ty2, h1, h2, h3, h4, h5, h6⟩ := hf
  cases h1.symm.trans hci
  have he := ws_at (ad := ad) (Y := Y) (μ := μ) hcell
  refine va_putF (D := (dC, dI)) (v := .ref (ad b)) hx hb hts h4 ty2 h5 h6 hown hK hP (hA.D Y μ) hS a he h1 j h2 (hts _ h3) (fun _ h => h) hfin hnm hdecl hpd (hnar _) (hfit _) (by simpa using hs) hd (fun H1 locs1 hP1 _ hS1 => kk ⟨hx, hb, hml, hown, hts, hK, by simpa using hA, hd1, hd2, hnl⟩ H1 locs1 ls ?_ hS1 hl)
  rw [← ws_setc (List.getElem?_eq_some_iff.mp hcell).1]
  have e : (sl.zipIdx.map fun z => sV ad (μ.1 a z.2) z.1).set j (.ref (ad b)) = (sl.set j (some (some b))).zipIdx.map fun z => sV ad (μ.1 a z.2) z.1 := by
    apply List.ext_getElem?
    intro i
    by_cases hi : j = i
    · subst hi
      rw [List.getElem?_set_self (by simpa using hs)]
      simp [List.getElem?_set_self hs, sV, va_rf]
    · rw [List.getElem?_set_ne hi]
      simp [List.getElem?_set_ne hi]
  rw [e] at hP1
  exact hP1
