theorem GX_vretI {Γ : GT} {cc : ByteArray} {own : String} {L : LY} {d nL0 k n n0 : Nat} {lv : List (Option Value)} {ad0 : Nat → Nat} {pc : Nat} (hC : CX Γ cc own L d nL0) (hR : RXI Γ n0 k n ad0 L) (hext : ∀ i, i < n0 → gad Γ i = ad0 i) (hd : decode cc pc = .ok (.return_, 1)) : GX Γ L k n lv [] μZ pc := by
  obtain ⟨p, l, e, R, s, m, args, below, meth, c, Q, H0, dC, dI, Y, ad, A, nL⟩ := Γ
  obtain ⟨hx, hb, hml, hown, hts, hK, hA, hd1, hd2, hnl⟩ := hC
  intro H locs ls hP hS hl
  obtain ⟨hr, hlk, hH, hQ⟩ := hR
  subst hH; subst hQ
  exact W.vret hx hb hr (fun t ht hW => ⟨rfl, ⟨ad, hext, hA, by rw [ht]; exact hP⟩, hS.F ht⟩) hS.2.2 hd hlk
