/-! ===== the methods as pure functions, by program ===== -/
def Land_copyFrom (t : Nat) (other1 : Nat) (m2 : MI) : Option (MI) :=
  (stF m2 t 0 (m2.1 other1 0)).bind fun m3 =>
  (stF m3 t 1 (m3.1 other1 1)).bind fun m6 =>
  (ldZ m6 other1 2).bind fun b9 =>
  (stZ m6 t 2 b9).bind fun m12 =>
  (ldZ m12 other1 3).bind fun b15 =>
  (stZ m12 t 3 b15).bind fun m18 =>
  (acp 6 6 m18 (other1 + 1) 0 (t + 1) 0 6).bind fun m21 =>
  (acp 6 6 m21 (other1 + 2) 0 (t + 2) 0 6).bind fun m24 =>
  (acp 36 36 m24 (other1 + 3) 0 (t + 3) 0 36).bind fun m27 =>
  (acp 3 3 m27 (other1 + 4) 0 (t + 4) 0 3).bind fun m30 =>
  (acp 3 3 m30 (other1 + 5) 0 (t + 5) 0 3).bind fun m33 =>
  (acp 18 18 m33 (other1 + 6) 0 (t + 6) 0 18).bind fun m36 =>
  some m36
def Land_isField (t : Nat) (f1 : Int32) (m2 : MI) : Option (Bool) :=
  (if 0 ≤ f1 then (if f1 < (m2.1 t 0) then (some (decide (f1 < 6))) else (some false)) else (some false)).bind fun c3 =>
  some c3
def Land_isPerson (t : Nat) (p1 : Int32) (m2 : MI) : Option (Bool) :=
  (if 0 ≤ p1 then (if p1 < (m2.1 t 1) then (some (decide (p1 < 3))) else (some false)) else (some false)).bind fun c3 =>
  some c3
def Land_setWorth (t : Nat) (p1 : Int32) (f2 : Int32) (worth3 : Int32) (m4 : MI) : Option (Bool × MI) :=
  ((Land_isPerson t p1 m4).bind fun b15 =>
  if b15 then ((Land_isField t f2 m4).bind fun b19 =>
  some (!b19)) else (some true)).bind fun c5 =>
  if c5 then
  (some (false, m4))
  else
  ((stA 18 m4 (t + 6) ((p1 * 6) + f2) worth3).bind fun m12 =>
  some (true, m12))
def Land_addField_s1 (t : Nat) (f10 : Int32) (size1 : Int32) : Int32 × MI → Option ((Int32 × MI) ⊕ (MI)) := fun (p26, m27) =>
  if p26 < (m27.1 t 1) then
  ((Land_setWorth t p26 f10 (10 * size1) m27).bind fun (b30, m31) =>
  (some (p26 + 1) : Option Int32).bind fun i34 =>
  some (.inl (i34, m31)))
  else
  (some (.inr m27))
def Land_addField (t : Nat) (size1 : Int32) (m2 : MI) : Option (Bool × MI) :=
  (if size1 < 1 then (some true) else (if 9 < size1 then (some true) else (if (m2.1 t 0) < 0 then (some true) else (some (decide (6 ≤ (m2.1 t 0))))))).bind fun c3 =>
  if c3 then
  (some (false, m2))
  else
  ((some (m2.1 t 0) : Option Int32).bind fun f10 =>
  (stF m2 t 0 ((m2.1 t 0) + 1)).bind fun m13 =>
  (stA 6 m13 (t + 1) f10 size1).bind fun m16 =>
  (stA 6 m16 (t + 2) f10 9).bind fun m19 =>
  (lp (Land_addField_s1 t f10 size1) FUEL (0, m19)).bind fun m28 =>
  some (true, m28))
def Land_isOwner (t : Nat) (p1 : Int32) (m2 : MI) : Option (Bool) :=
  (if p1 = 9 then (some true) else ((Land_isPerson t p1 m2).bind fun b11 =>
  some (b11))).bind fun c3 =>
  some c3
def Land_give (t : Nat) (p1 : Int32) (f2 : Int32) (m3 : MI) : Option (Bool × MI) :=
  ((Land_isOwner t p1 m3).bind fun b14 =>
  if b14 then ((Land_isField t f2 m3).bind fun b18 =>
  some (!b18)) else (some true)).bind fun c4 =>
  if c4 then
  (some (false, m3))
  else
  ((stA 6 m3 (t + 2) f2 p1).bind fun m11 =>
  some (true, m11))
def Land_areTwo (t : Nat) (a1 : Int32) (b2 : Int32) (m3 : MI) : Option (Bool) :=
  ((Land_isField t a1 m3).bind fun b10 =>
  if b10 then ((Land_isField t b2 m3).bind fun b14 =>
  if b14 then (some (decide (a1 ≠ b2))) else (some false)) else (some false)).bind fun c4 =>
  some c4
def Land_setTouch (t : Nat) (a1 : Int32) (b2 : Int32) (how3 : Int32) (m4 : MI) : Option (MI) :=
  ((Land_areTwo t a1 b2 m4).bind fun b10 =>
  if b10 then
  ((stA 36 m4 (t + 3) ((a1 * 6) + b2) how3).bind fun m14 =>
  (stA 36 m14 (t + 3) ((b2 * 6) + a1) how3).bind fun m17 =>
  some m17)
  else
  (some m4) : Option (MI)).bind fun m8 =>
  some m8
def Land_touchOf (t : Nat) (a1 : Int32) (b2 : Int32) (m3 : MI) : Option (Int32) :=
  (((Land_isField t a1 m3).bind fun b18 =>
  if b18 then ((Land_isField t b2 m3).bind fun b22 =>
  some (b22)) else (some false)).bind fun c8 =>
  if c8 then
  ((ldA 36 m3 (t + 3) ((a1 * 6) + b2)).bind fun x13 =>
  some x13)
  else
  (some 0) : Option (Int32)).bind fun x4 =>
  some x4
def Land_join (t : Nat) (a1 : Int32) (b2 : Int32) (how3 : Int32) (m4 : MI) : Option (Bool × MI) :=
  ((Land_areTwo t a1 b2 m4).bind fun b15 =>
  if b15 then ((Land_touchOf t a1 b2 m4).bind fun r19 =>
  some (decide (r19 ≠ 0))) else (some true)).bind fun c5 =>
  if c5 then
  (some (false, m4))
  else
  ((Land_setTouch t a1 b2 how3 m4).bind fun m12 =>
  some (true, m12))
def Land_setLaw (t : Nat) (what1 : Int32) (x2 : Bool) (m3 : MI) : Option (MI) :=
  (if what1 = 0 then
  ((stZ m3 t 2 x2).bind fun m10 =>
  some m10)
  else
  ((stZ m3 t 3 x2).bind fun m14 =>
  some m14) : Option (MI)).bind fun m7 =>
  some m7
def LandReader_carryOutLaw (land1 : Nat) (m2 : MI) : Option (Bool × MI) :=
  (if 1 < (m2.1 23 2) then (some true) else (some (decide (1 < (m2.1 23 3))))).bind fun c3 =>
  if c3 then
  (some (false, m2))
  else
  ((some (decide ((m2.1 23 2) = 1))).bind fun c10 =>
  (Land_setLaw land1 0 c10 m2).bind fun m16 =>
  (some (decide ((m16.1 23 3) = 1))).bind fun c19 =>
  (Land_setLaw land1 1 c19 m16).bind fun m25 =>
  some (true, m25))
def Land_acresOf (t : Nat) (f1 : Int32) (m2 : MI) : Option (Int32) :=
  ((Land_isField t f1 m2).bind fun b7 =>
  if b7 then
  ((ldA 6 m2 (t + 1) f1).bind fun x11 =>
  some x11)
  else
  (some 0) : Option (Int32)).bind fun x3 =>
  some x3
def Land_addPerson_s1 (t : Nat) (p11 : Int32) : Int32 × MI → Option ((Int32 × MI) ⊕ (MI)) := fun (f27, m28) =>
  if f27 < (m28.1 t 0) then
  ((Land_acresOf t f27 m28).bind fun r31 =>
  (Land_setWorth t p11 f27 (10 * r31) m28).bind fun (b34, m35) =>
  (some (f27 + 1) : Option Int32).bind fun i38 =>
  some (.inl (i38, m35)))
  else
  (some (.inr m28))
def Land_addPerson (t : Nat) (purse1 : Int32) (kinOfOne2 : Int32) (m3 : MI) : Option (Bool × MI) :=
  (if (m3.1 t 1) < 0 then (some true) else (if 3 ≤ (m3.1 t 1) then (some true) else ((Land_isOwner t kinOfOne2 m3).bind fun b47 =>
  some (!b47)))).bind fun c4 =>
  if c4 then
  (some (false, m3))
  else
  ((some (m3.1 t 1) : Option Int32).bind fun p11 =>
  (stF m3 t 1 ((m3.1 t 1) + 1)).bind fun m14 =>
  (stA 3 m14 (t + 4) p11 purse1).bind fun m17 =>
  (stA 3 m17 (t + 5) p11 kinOfOne2).bind fun m20 =>
  (lp (Land_addPerson_s1 t p11) FUEL (0, m20)).bind fun m29 =>
  some (true, m29))
def LandReader_carryOutPerson (land1 : Nat) (m2 : MI) : Option (Bool × MI) :=
  (ldZ m2 23 5).bind fun b3 =>
  if b3 then
  (((Land_isPerson land1 (m2.1 23 2) m2).bind fun b16 =>
  if b16 then ((Land_addPerson land1 (m2.1 23 4) (m2.1 23 2) m2).bind fun (b20, m21) =>
  some (b20, m21)) else (some (false, m2))).bind fun (c7, m8) =>
  some (c7, m8))
  else
  ((Land_addPerson land1 (m2.1 23 4) 9 m2).bind fun (b26, m27) =>
  some (b26, m27))
def LandReader_carryOutOne (land1 : Nat) (m2 : MI) : Option (Bool × MI) :=
  (some (m2.1 23 1) : Option Int32).bind fun w3 =>
  if w3 = 99 then
  ((Land_join land1 (m2.1 23 2) (m2.1 23 3) 3 m2).bind fun (b7, m8) =>
  some (b7, m8))
  else
  (if w3 = 102 then
  ((Land_addField land1 (m2.1 23 2) m2).bind fun (b13, m14) =>
  some (b13, m14))
  else
  (if w3 = 104 then
  (((ldZ m2 23 5).bind fun b23 =>
  if b23 then
  (some 2)
  else
  (some 1) : Option (Int32)).bind fun x19 =>
  (Land_join land1 (m2.1 23 2) (m2.1 23 3) x19 m2).bind fun (b28, m29) =>
  some (b28, m29))
  else
  (if w3 = 111 then
  (((Land_isPerson land1 (m2.1 23 2) m2).bind fun b43 =>
  if b43 then ((Land_give land1 (m2.1 23 2) (m2.1 23 3) m2).bind fun (b47, m48) =>
  some (b47, m48)) else (some (false, m2))).bind fun (c34, m35) =>
  some (c34, m35))
  else
  (if w3 = 112 then
  ((LandReader_carryOutPerson land1 m2).bind fun (b54, m55) =>
  some (b54, m55))
  else
  (if w3 = 119 then
  ((Land_setWorth land1 (m2.1 23 2) (m2.1 23 3) (m2.1 23 4) m2).bind fun (b60, m61) =>
  some (b60, m61))
  else
  ((LandReader_carryOutLaw land1 m2).bind fun (b65, m66) =>
  some (b65, m66)))))))
def LandReader_isLetter (m1 : MI) : Option (Bool) :=
  (some (m1.1 23 1) : Option Int32).bind fun w2 =>
  if w2 = 99 then
  (some true)
  else
  (if w2 = 100 then
  (some false)
  else
  (if w2 = 101 then
  (some false)
  else
  (if w2 = 102 then
  (some true)
  else
  (if w2 = 103 then
  (some false)
  else
  (if w2 = 104 then
  (some true)
  else
  (if w2 = 105 then
  (some false)
  else
  (if w2 = 106 then
  (some false)
  else
  (if w2 = 107 then
  (some false)
  else
  (if w2 = 108 then
  (some false)
  else
  (if w2 = 109 then
  (some false)
  else
  (if w2 = 110 then
  (some false)
  else
  (if w2 = 111 then
  (some true)
  else
  (if w2 = 112 then
  (some true)
  else
  (if w2 = 113 then
  (some false)
  else
  (if w2 = 114 then
  (some false)
  else
  (if w2 = 115 then
  (some false)
  else
  (if w2 = 116 then
  (some false)
  else
  (if w2 = 117 then
  (some false)
  else
  (if w2 = 118 then
  (some false)
  else
  (if w2 = 119 then
  (some true)
  else
  (if w2 = 120 then
  (some true)
  else
  (some false))))))))))))))))))))))
def LandReader_isDigit (sign1 : Int32) : Option (Bool) :=
  (if 48 ≤ sign1 then (some (decide (sign1 ≤ 57))) else (some false)).bind fun c2 =>
  some c2
def Shelf_at (t : Nat) (i1 : Int32) (m2 : MI) : Option (Int32) :=
  ((if 0 ≤ i1 then (if i1 < (m2.1 t 2) then (some (decide (i1 < 100))) else (some false)) else (some false)).bind fun c7 =>
  if c7 then
  ((ldA 100 m2 (t + 2) i1).bind fun x12 =>
  some x12)
  else
  (some 0) : Option (Int32)).bind fun x3 =>
  some x3
def LandReader_takeDigits_s1 (n2 : Int32) (text1 : Nat) : Int32 × MI → Option ((Int32 × MI) ⊕ ((MI) ⊕ (Bool × MI))) := fun (i8, m9) =>
  if i8 < n2 then
  ((Shelf_at text1 (m9.1 23 0) m9).bind fun r12 =>
  (LandReader_isDigit r12).bind fun b15 =>
  if b15 then
  ((if i8 = 0 then
  ((stF m9 23 2 (r12 - 48)).bind fun m25 =>
  some m25)
  else
  ((stF m9 23 3 (r12 - 48)).bind fun m29 =>
  some m29) : Option (MI)).bind fun m22 =>
  (stF m22 23 0 ((m22.1 23 0) + 1)).bind fun m33 =>
  (some (i8 + 1) : Option Int32).bind fun i36 =>
  some (.inl (i36, m33)))
  else
  (some (.inr (.inr (false, m9)))))
  else
  (some (.inr (.inl m9)))
def LandReader_takeDigits (text1 : Nat) (n2 : Int32) (m3 : MI) : Option (Bool × MI) :=
  (lp (LandReader_takeDigits_s1 n2 text1) FUEL (0, m3)).bind fun o4 => Sum.elim (fun m10 => some (true, m10)) (fun r42 => some r42) o4
def LandReader_takeFigure_s1 (mostDigits2 : Int32) (text1 : Nat) : Int32 × MI → Option ((Int32 × MI) ⊕ (Int32 × MI)) := fun (digits11, m12) =>
  (if digits11 < mostDigits2 then ((Shelf_at text1 (m12.1 23 0) m12).bind fun r35 =>
  (LandReader_isDigit r35).bind fun b38 =>
  if b38 then (if digits11 = 0 then (some true) else (some (decide (0 < (m12.1 23 4))))) else (some false)) else (some false)).bind fun c15 =>
  if c15 then
  ((Shelf_at text1 (m12.1 23 0) m12).bind fun r20 =>
  (stF m12 23 4 (((10 * (m12.1 23 4)) + r20) - 48)).bind fun m23 =>
  (stF m23 23 0 ((m23.1 23 0) + 1)).bind fun m26 =>
  (some (digits11 + 1) : Option Int32).bind fun i29 =>
  some (.inl (i29, m26)))
  else
  (some (.inr (digits11, m12)))
def LandReader_takeFigure (text1 : Nat) (mostDigits2 : Int32) (m3 : MI) : Option (Bool × MI) :=
  (stF m3 23 4 0).bind fun m4 =>
  (lp (LandReader_takeFigure_s1 mostDigits2 text1) FUEL (0, m4)).bind fun (digits13, m14) =>
  (some (decide (0 < digits13))).bind fun c47 =>
  some (c47, m14)
def LandReader_takeSign (text1 : Nat) (sign2 : Int32) (m3 : MI) : Option (Bool × MI) :=
  (Shelf_at text1 (m3.1 23 0) m3).bind fun r4 =>
  if r4 ≠ sign2 then
  (some (false, m3))
  else
  ((stF m3 23 0 ((m3.1 23 0) + 1)).bind fun m9 =>
  some (true, m9))
def LandReader_takeKin (text1 : Nat) (m2 : MI) : Option (Bool × MI) :=
  (LandReader_takeSign text1 107 m2).bind fun (b3, m4) =>
  (stZ m4 23 5 b3).bind fun m7 =>
  ((ldZ m7 23 5).bind fun b19 =>
  if b19 then ((LandReader_takeDigits text1 1 m7).bind fun (b23, m24) =>
  some (b23, m24)) else (some (true, m7))).bind fun (c10, m11) =>
  some (c10, m11)
def LandReader_takeLane (text1 : Nat) (m2 : MI) : Option (Bool × MI) :=
  (LandReader_takeSign text1 108 m2).bind fun (b3, m4) =>
  (stZ m4 23 5 b3).bind fun m7 =>
  some (true, m7)
def LandReader_takeBehindLetter (text1 : Nat) (m2 : MI) : Option (Bool × MI) :=
  (some (m2.1 23 1) : Option Int32).bind fun w3 =>
  if w3 = 102 then
  ((LandReader_takeDigits text1 1 m2).bind fun (b7, m8) =>
  some (b7, m8))
  else
  (if w3 = 104 then
  (((LandReader_takeDigits text1 2 m2).bind fun (b22, m23) =>
  if b22 then ((LandReader_takeLane text1 m23).bind fun (b27, m28) =>
  some (b27, m28)) else (some (false, m23))).bind fun (c13, m14) =>
  some (c13, m14))
  else
  (if w3 = 112 then
  (((LandReader_takeFigure text1 3 m2).bind fun (b43, m44) =>
  if b43 then ((LandReader_takeKin text1 m44).bind fun (b48, m49) =>
  some (b48, m49)) else (some (false, m44))).bind fun (c34, m35) =>
  some (c34, m35))
  else
  (if w3 = 119 then
  (((LandReader_takeDigits text1 2 m2).bind fun (b64, m65) =>
  if b64 then ((LandReader_takeSign text1 32 m65).bind fun (b69, m70) =>
  if b69 then ((LandReader_takeFigure text1 2 m70).bind fun (b74, m75) =>
  some (b74, m75)) else (some (false, m70))) else (some (false, m65))).bind fun (c55, m56) =>
  some (c55, m56))
  else
  ((LandReader_takeDigits text1 2 m2).bind fun (b81, m82) =>
  some (b81, m82)))))
def LandReader_takeStatement (text1 : Nat) (m2 : MI) : Option (Bool × MI) :=
  (Shelf_at text1 (m2.1 23 0) m2).bind fun r3 =>
  (stF m2 23 1 r3).bind fun m6 =>
  (LandReader_isLetter m6).bind fun b9 =>
  if b9 then
  ((stF m6 23 0 ((m6.1 23 0) + 1)).bind fun m13 =>
  ((LandReader_takeBehindLetter text1 m13).bind fun (b25, m26) =>
  if b25 then ((LandReader_takeSign text1 59 m26).bind fun (b30, m31) =>
  some (b30, m31)) else (some (false, m26))).bind fun (c16, m17) =>
  some (c16, m17))
  else
  (some (false, m6))
def LandReader_carryOut_s1 (statements3 : Int32) (text2 : Nat) (land1 : Nat) : Int32 × MI → Option ((Int32 × MI) ⊕ ((MI) ⊕ (Int32 × MI))) := fun (n12, m13) =>
  if n12 < statements3 then
  ((some (m13.1 23 0) : Option Int32).bind fun place16 =>
  (LandReader_takeStatement text2 m13).bind fun (b19, m20) =>
  (LandReader_carryOutOne land1 m20).bind fun (b23, m24) =>
  if b23 then
  ((some (n12 + 1) : Option Int32).bind fun i28 =>
  some (.inl (i28, m24)))
  else
  (some (.inr (.inr (((-2000) - place16), m24)))))
  else
  (some (.inr (.inl m13)))
def LandReader_carryOut (land1 : Nat) (text2 : Nat) (statements3 : Int32) (m4 : MI) : Option (Int32 × MI) :=
  (stF m4 23 0 0).bind fun m5 =>
  (lp (LandReader_carryOut_s1 statements3 text2 land1) FUEL (0, m5)).bind fun o8 => Sum.elim (fun m14 => some (0, m14)) (fun r34 => some r34) o8
def LandReader_countStatements_s1 (text1 : Nat) : Int32 × MI → Option ((Int32 × MI) ⊕ ((Int32 × MI) ⊕ (Int32 × MI))) := fun (statements10, m11) =>
  (if statements10 = 0 then (some true) else (if (m11.1 23 0) < (m11.1 text1 2) then (some (decide (statements10 < (m11.1 text1 2)))) else (some false))).bind fun c14 =>
  if c14 then
  ((LandReader_takeStatement text1 m11).bind fun (b19, m20) =>
  if b19 then
  ((some (statements10 + 1) : Option Int32).bind fun i24 =>
  some (.inl (i24, m20)))
  else
  (some (.inr (.inr (((-1000) - (m20.1 23 0)), m20)))))
  else
  (some (.inr (.inl (statements10, m11))))
def LandReader_countStatements (text1 : Nat) (m2 : MI) : Option (Int32 × MI) :=
  (stF m2 23 0 0).bind fun m3 =>
  (lp (LandReader_countStatements_s1 text1) FUEL (0, m3)).bind fun o6 => Sum.elim (fun (statements12, m13) => some (statements12, m13)) (fun r35 => some r35) o6
def Shelf_refusalUnless (t : Nat) (wanted1 : Int32) (m2 : MI) : Option (Int32) :=
  if (m2.1 t 0) = 0 then
  (some (-11))
  else
  ((if (m2.1 t 0) = wanted1 then
  (some 0)
  else
  (some (-12)) : Option (Int32)).bind fun x5 =>
  some x5)
def Shelf_bytesRefusal (t : Nat) (m1 : MI) : Option (Int32) :=
  (Shelf_refusalUnless t 2 m1).bind fun r2 =>
  ((if r2 = 0 then (some (decide ((m1.1 t 1) ≠ 0))) else (some false)).bind fun c9 =>
  if c9 then
  (some (-12))
  else
  (some r2) : Option (Int32)).bind fun x5 =>
  some x5
def N_land (d1 : Int32) (m2 : MI) : Option (Int32 × MI) :=
  onN (N_shelfAt d1)
  (some ((-1), m2))
  (fun s4 => (Shelf_bytesRefusal s4 m2).bind fun r8 =>
  if r8 ≠ 0 then
  (some (r8, m2))
  else
  ((LandReader_countStatements s4 m2).bind fun (r13, m14) =>
  if r13 < 0 then
  (some (r13, m14))
  else
  ((Land_copyFrom 8 1 m14).bind fun m19 =>
  (LandReader_carryOut 8 s4 r13 m19).bind fun (r22, m23) =>
  if r22 < 0 then
  (some (r22, m23))
  else
  ((Land_copyFrom 1 8 m23).bind fun m28 =>
  some (r13, m28)))))
def Land_bars (t : Nat) (a1 : Int32) (b2 : Int32) (m3 : MI) : Option (Bool) :=
  ((Land_isField t a1 m3).bind fun b27 =>
  if b27 then ((Land_isField t b2 m3).bind fun b31 =>
  some (!b31)) else (some true)).bind fun c4 =>
  if c4 then
  (some false)
  else
  ((ldA 36 m3 (t + 3) ((a1 * 6) + b2)).bind fun x11 =>
  (if x11 = 1 then (some true) else (if x11 = 3 then ((ldZ m3 t 2).bind fun b23 =>
  some (b23)) else (some false))).bind fun c14 =>
  some c14)
def Land_barBits_s1 (m2 : MI) (t : Nat) (f1 : Int32) : Int32 × Int32 → Option ((Int32 × Int32) ⊕ (Int32)) := fun (bits7, g8) =>
  if g8 < (m2.1 t 0) then
  (((Land_bars t f1 g8 m2).bind fun b15 =>
  if b15 then
  (some (1 <<< (g8 &&& 31)))
  else
  (some 0) : Option (Int32)).bind fun x11 =>
  (some (bits7 ||| x11) : Option Int32).bind fun bits20 =>
  (some (g8 + 1) : Option Int32).bind fun i23 =>
  some (.inl (bits20, i23)))
  else
  (some (.inr bits7))
def Land_barBits (t : Nat) (f1 : Int32) (m2 : MI) : Option (Int32) :=
  (lp (Land_barBits_s1 m2 t f1) FUEL (0, 0)).bind fun bits9 =>
  some bits9
def Land_ownerOf (t : Nat) (f1 : Int32) (m2 : MI) : Option (Int32) :=
  ((Land_isField t f1 m2).bind fun b7 =>
  if b7 then
  ((ldA 6 m2 (t + 2) f1).bind fun x11 =>
  some x11)
  else
  (some 9) : Option (Int32)).bind fun x3 =>
  some x3
def N_orNone (person1 : Int32) : Option (Int32) :=
  (if person1 = 9 then
  (some (-4))
  else
  (some person1) : Option (Int32)).bind fun x2 =>
  some x2
def N_field (field1 : Int32) (what2 : Int32) (m3 : MI) : Option (Int32) :=
  ((Land_isField 1 field1 m3).bind fun b31 =>
  if b31 then (if what2 < 0 then (some true) else (some (decide (2 < what2)))) else (some true)).bind fun c4 =>
  if c4 then
  (some (-1))
  else
  (if what2 = 0 then
  ((Land_acresOf 1 field1 m3).bind fun r12 =>
  some r12)
  else
  ((if what2 = 1 then
  ((Land_ownerOf 1 field1 m3).bind fun r21 =>
  (N_orNone r21).bind fun r24 =>
  some r24)
  else
  ((Land_barBits 1 field1 m3).bind fun r28 =>
  some r28) : Option (Int32)).bind fun x16 =>
  some x16))
def N_touch (a1 : Int32) (b2 : Int32) (m3 : MI) : Option (Int32) :=
  ((Land_areTwo 1 a1 b2 m3).bind fun b8 =>
  if b8 then
  ((Land_touchOf 1 a1 b2 m3).bind fun r12 =>
  some r12)
  else
  (some (-1)) : Option (Int32)).bind fun x4 =>
  some x4
def Land_coinsOf (t : Nat) (p1 : Int32) (m2 : MI) : Option (Int32) :=
  ((Land_isPerson t p1 m2).bind fun b7 =>
  if b7 then
  ((ldA 3 m2 (t + 4) p1).bind fun x11 =>
  some x11)
  else
  (some 0) : Option (Int32)).bind fun x3 =>
  some x3
def Land_fieldBits_s1 (m2 : MI) (t : Nat) (p1 : Int32) : Int32 × Int32 → Option ((Int32 × Int32) ⊕ (Int32)) := fun (bits7, f8) =>
  if f8 < (m2.1 t 0) then
  (((Land_ownerOf t f8 m2).bind fun r15 =>
  if r15 = p1 then
  (some (1 <<< (f8 &&& 31)))
  else
  (some 0) : Option (Int32)).bind fun x11 =>
  (some (bits7 ||| x11) : Option Int32).bind fun bits20 =>
  (some (f8 + 1) : Option Int32).bind fun i23 =>
  some (.inl (bits20, i23)))
  else
  (some (.inr bits7))
def Land_fieldBits (t : Nat) (p1 : Int32) (m2 : MI) : Option (Int32) :=
  (lp (Land_fieldBits_s1 m2 t p1) FUEL (0, 0)).bind fun bits9 =>
  some bits9
def Land_kinOf (t : Nat) (p1 : Int32) (m2 : MI) : Option (Int32) :=
  ((Land_isPerson t p1 m2).bind fun b7 =>
  if b7 then
  ((ldA 3 m2 (t + 5) p1).bind fun x11 =>
  some x11)
  else
  (some 9) : Option (Int32)).bind fun x3 =>
  some x3
def Land_worthTo (t : Nat) (p1 : Int32) (f2 : Int32) (m3 : MI) : Option (Int32) :=
  (((Land_isPerson t p1 m3).bind fun b18 =>
  if b18 then ((Land_isField t f2 m3).bind fun b22 =>
  some (b22)) else (some false)).bind fun c8 =>
  if c8 then
  ((ldA 18 m3 (t + 6) ((p1 * 6) + f2)).bind fun x13 =>
  some x13)
  else
  (some 0) : Option (Int32)).bind fun x4 =>
  some x4
def Land_worthOfBits_s1 (m3 : MI) (t : Nat) (bits2 : Int32) (p1 : Int32) : Int32 × Int32 → Option ((Int32 × Int32) ⊕ (Int32)) := fun (worth8, f9) =>
  if f9 < (m3.1 t 0) then
  ((if ((bits2 >>> (f9 &&& 31)) &&& 1) = 1 then
  ((Land_worthTo t p1 f9 m3).bind fun r17 =>
  some r17)
  else
  (some 0) : Option (Int32)).bind fun x12 =>
  (some (worth8 + x12) : Option Int32).bind fun worth21 =>
  (some (f9 + 1) : Option Int32).bind fun i24 =>
  some (.inl (worth21, i24)))
  else
  (some (.inr worth8))
def Land_worthOfBits (t : Nat) (p1 : Int32) (bits2 : Int32) (m3 : MI) : Option (Int32) :=
  (lp (Land_worthOfBits_s1 m3 t bits2 p1) FUEL (0, 0)).bind fun worth10 =>
  some worth10
def Land_worthOwned (t : Nat) (p1 : Int32) (m2 : MI) : Option (Int32) :=
  (Land_fieldBits t p1 m2).bind fun r3 =>
  (Land_worthOfBits t p1 r3 m2).bind fun r6 =>
  some r6
def N_person (person1 : Int32) (what2 : Int32) (m3 : MI) : Option (Int32) :=
  (Land_isPerson 1 person1 m3).bind fun b4 =>
  if b4 then
  (if what2 = 0 then
  ((Land_coinsOf 1 person1 m3).bind fun r9 =>
  some r9)
  else
  (if what2 = 1 then
  ((Land_kinOf 1 person1 m3).bind fun r14 =>
  (N_orNone r14).bind fun r17 =>
  some r17)
  else
  (if what2 = 2 then
  ((Land_fieldBits 1 person1 m3).bind fun r22 =>
  some r22)
  else
  (if what2 = 3 then
  ((Land_worthOwned 1 person1 m3).bind fun r27 =>
  some r27)
  else
  (some (-1))))))
  else
  (some (-1))
def N_worth (person1 : Int32) (field2 : Int32) (m3 : MI) : Option (Int32) :=
  ((Land_isPerson 1 person1 m3).bind fun b14 =>
  if b14 then ((Land_isField 1 field2 m3).bind fun b18 =>
  some (!b18)) else (some true)).bind fun c4 =>
  if c4 then
  (some (-1))
  else
  ((Land_worthTo 1 person1 field2 m3).bind fun r11 =>
  some r11)
def N_law (what1 : Int32) (x2 : Int32) (m3 : MI) : Option (Int32 × MI) :=
  (if what1 < 0 then (some true) else (if 1 < what1 then (some true) else (if x2 < 0 then (some true) else (some (decide (1 < x2)))))).bind fun c4 =>
  if c4 then
  (some ((-1), m3))
  else
  ((if what1 = 0 then
  ((ldZ m3 1 2).bind fun b16 =>
  some b16)
  else
  ((ldZ m3 1 3).bind fun b20 =>
  some b20) : Option (Bool)).bind fun b11 =>
  (some (decide (x2 = 1))).bind fun c23 =>
  (Land_setLaw 1 what1 c23 m3).bind fun m29 =>
  (if b11 then
  (some 1)
  else
  (some 0) : Option (Int32)).bind fun x32 =>
  some (x32, m29))
def N_owns (person1 : Int32) (field2 : Int32) (m3 : MI) : Option (Int32 × MI) :=
  ((Land_isOwner 1 person1 m3).bind fun b18 =>
  if b18 then ((Land_isField 1 field2 m3).bind fun b22 =>
  some (!b22)) else (some true)).bind fun c4 =>
  if c4 then
  (some ((-1), m3))
  else
  ((Land_ownerOf 1 field2 m3).bind fun r11 =>
  (Land_give 1 person1 field2 m3).bind fun (b14, m15) =>
  some (r11, m15))
def Land_asOne (t : Nat) (p1 : Int32) (q2 : Int32) (m3 : MI) : Option (Bool) :=
  ((Land_isPerson t p1 m3).bind fun b32 =>
  if b32 then ((Land_isPerson t q2 m3).bind fun b36 =>
  some (!b36)) else (some true)).bind fun c4 =>
  if c4 then
  (some false)
  else
  ((if p1 = q2 then (some true) else ((ldZ m3 t 3).bind fun b19 =>
  if b19 then ((ldA 3 m3 (t + 5) p1).bind fun x23 =>
  if x23 = q2 then (some true) else ((ldA 3 m3 (t + 5) q2).bind fun x28 =>
  some (decide (x28 = p1)))) else (some false))).bind fun c11 =>
  some c11)
def Land_firstOffence_s2 (m2 : MI) (t : Nat) (soldBits1 : Int32) (a7 : Int32) : Int32 → Option ((Int32) ⊕ ((Unit) ⊕ (Int32))) := fun b16 =>
  if b16 < (m2.1 t 0) then
  ((if ((soldBits1 >>> (a7 &&& 31)) &&& 1) = 1 then (some true) else (some (decide (((soldBits1 >>> (b16 &&& 31)) &&& 1) = 1)))).bind fun c18 =>
  (if c18 then (some false) else ((Land_bars t a7 b16 m2).bind fun b38 =>
  if b38 then ((Land_ownerOf t a7 m2).bind fun r42 =>
  (Land_ownerOf t b16 m2).bind fun r45 =>
  (Land_asOne t r42 r45 m2).bind fun b48 =>
  some (b48)) else (some false))).bind fun c26 =>
  if c26 then
  (some (.inr (.inr ((10 * a7) + b16))))
  else
  ((some (b16 + 1) : Option Int32).bind fun i33 =>
  some (.inl i33)))
  else
  (some (.inr (.inl ())))
def Land_firstOffence_s1 (m2 : MI) (t : Nat) (soldBits1 : Int32) : Int32 → Option ((Int32) ⊕ ((Unit) ⊕ (Int32))) := fun a7 =>
  if a7 < (m2.1 t 0) then
  ((some (a7 + 1) : Option Int32).bind fun b9 =>
  (lp (Land_firstOffence_s2 m2 t soldBits1 a7) FUEL b9).bind fun o12 => Sum.elim (fun _ => (some (a7 + 1) : Option Int32).bind fun i54 =>
  some (.inl i54)) (fun r57 => some (.inr (.inr r57))) o12)
  else
  (some (.inr (.inl ())))
def Land_firstOffence (t : Nat) (soldBits1 : Int32) (m2 : MI) : Option (Int32) :=
  (lp (Land_firstOffence_s1 m2 t soldBits1) FUEL 0).bind fun o3 => Sum.elim (fun _ => some (-4)) (fun r60 => some r60) o3
def Land_isLawful (t : Nat) (m1 : MI) : Option (Bool) :=
  ((Land_firstOffence t 0 m1).bind fun r8 =>
  some (decide (r8 = (-4)))).bind fun c2 =>
  some c2
def N_lawful (m1 : MI) : Option (Int32) :=
  ((Land_isLawful 1 m1).bind fun b6 =>
  if b6 then
  (some 1)
  else
  (some 0) : Option (Int32)).bind fun x2 =>
  some x2
def N_firstUnlawful (m1 : MI) : Option (Int32) :=
  (Land_firstOffence 1 0 m1).bind fun r2 =>
  some r2
def Land_earn (t : Nat) (p1 : Int32) (sum2 : Int32) (m3 : MI) : Option (MI) :=
  ((Land_isPerson t p1 m3).bind fun b9 =>
  if b9 then
  ((ldA 3 m3 (t + 4) p1).bind fun x13 =>
  (stA 3 m3 (t + 4) p1 (mn 999 (x13 + sum2))).bind fun m16 =>
  some m16)
  else
  (some m3) : Option (MI)).bind fun m7 =>
  some m7
def Move_buyFor (t : Nat) (land1 : Nat) (price2 : Int32) (m3 : MI) : Option (MI) :=
  (Land_earn land1 (m3.1 t 1) (-price2) m3).bind fun m4 =>
  (Land_ownerOf land1 (m4.1 t 2) m4).bind fun r7 =>
  (Land_earn land1 r7 price2 m4).bind fun m10 =>
  (Land_give land1 (m10.1 t 1) (m10.1 t 2) m10).bind fun (b13, m14) =>
  some m14
def Move_goRound (t : Nat) (land1 : Nat) (last2 : Int32) (m3 : MI) : Option (MI) :=
  (Land_ownerOf land1 (m3.1 t 2) m3).bind fun r4 =>
  (Land_ownerOf land1 (m3.1 t 3) m3).bind fun r7 =>
  (Land_ownerOf land1 last2 m3).bind fun r10 =>
  (Land_give land1 r10 (m3.1 t 2) m3).bind fun (b13, m14) =>
  (Land_give land1 r7 last2 m14).bind fun (b17, m18) =>
  (Land_give land1 r4 (m18.1 t 3) m18).bind fun (b21, m22) =>
  some m22
def Move_priceIn (t : Nat) (land1 : Nat) (m2 : MI) : Option (Int32) :=
  (Land_acresOf land1 (m2.1 t 2) m2).bind fun r3 =>
  some ((10 * r3) + (m2.1 t 4))
def Move_doOn (t : Nat) (land1 : Nat) (m2 : MI) : Option (MI) :=
  ((some (m2.1 t 0) : Option Int32).bind fun w8 =>
  if w8 = 1 then
  ((Move_priceIn t land1 m2).bind fun r12 =>
  (Move_buyFor t land1 r12 m2).bind fun m15 =>
  some m15)
  else
  (if w8 = 2 then
  ((Move_goRound t land1 (m2.1 t 3) m2).bind fun m20 =>
  some m20)
  else
  (if w8 = 3 then
  ((Move_goRound t land1 (m2.1 t 4) m2).bind fun m25 =>
  some m25)
  else
  (if w8 = 4 then
  ((Move_priceIn t land1 m2).bind fun r30 =>
  (Move_buyFor t land1 (2 * r30) m2).bind fun m33 =>
  some m33)
  else
  (if w8 = 5 then
  ((Land_setTouch land1 (m2.1 t 2) (m2.1 t 3) 2 m2).bind fun m38 =>
  (Land_earn land1 (m38.1 t 1) ((-5) * (m38.1 t 4)) m38).bind fun m41 =>
  some m41)
  else
  (if w8 = 6 then
  ((Land_give land1 9 (m2.1 t 2) m2).bind fun (b46, m47) =>
  some m47)
  else
  (if w8 = 7 then
  ((Land_give land1 9 (m2.1 t 2) m2).bind fun (b52, m53) =>
  (Move_priceIn t land1 m53).bind fun r56 =>
  (Land_earn land1 (m53.1 t 1) (r56 / 2) m53).bind fun m59 =>
  some m59)
  else
  (some m2))))))) : Option (MI)).bind fun m6 =>
  some m6
def Move_isAsTold (t : Nat) (land1 : Nat) (m2 : MI) : Option (Bool) :=
  (some (m2.1 t 0) : Option Int32).bind fun w3 =>
  if w3 = 1 then
  (((Land_ownerOf land1 (m2.1 t 2) m2).bind fun r13 =>
  some (decide (r13 ≠ (m2.1 t 1)))).bind fun c7 =>
  some c7)
  else
  (if w3 = 2 then
  ((some (decide ((m2.1 t 2) ≠ (m2.1 t 3)))).bind fun c18 =>
  some c18)
  else
  (if w3 = 3 then
  ((if (m2.1 t 2) ≠ (m2.1 t 3) then (if (m2.1 t 2) ≠ (m2.1 t 4) then (some (decide ((m2.1 t 3) ≠ (m2.1 t 4)))) else (some false)) else (some false)).bind fun c26 =>
  some c26)
  else
  (if w3 = 4 then
  (((Land_ownerOf land1 (m2.1 t 2) m2).bind fun r44 =>
  some (decide (r44 ≠ (m2.1 t 1)))).bind fun c38 =>
  some c38)
  else
  (if w3 = 5 then
  (((Land_touchOf land1 (m2.1 t 2) (m2.1 t 3) m2).bind fun r55 =>
  some (decide (r55 = 1))).bind fun c49 =>
  some c49)
  else
  (if w3 = 6 then
  (some true)
  else
  (if w3 = 7 then
  (((Land_ownerOf land1 (m2.1 t 2) m2).bind fun r68 =>
  some (decide (r68 = (m2.1 t 1)))).bind fun c62 =>
  some c62)
  else
  (some true)))))))
def N_isWanted_s1 (m17 : MI) : Int32 → Option ((Int32) ⊕ ((Unit) ⊕ (Bool × MI))) := fun p24 =>
  if p24 < (m17.1 1 1) then
  ((Land_worthOwned 8 p24 m17).bind fun r26 =>
  (Land_worthOwned 1 p24 m17).bind fun r29 =>
  if r26 < r29 then
  (some (.inr (.inr (false, m17))))
  else
  ((some (p24 + 1) : Option Int32).bind fun i34 =>
  some (.inl i34)))
  else
  (some (.inr (.inl ())))
def N_isWanted (move1 : Nat) (m2 : MI) : Option (Bool × MI) :=
  (Move_isAsTold move1 1 m2).bind fun b3 =>
  if b3 then
  ((if (m2.1 move1 0) = 6 then (some true) else (some (decide ((m2.1 move1 0) = 7)))).bind fun c7 =>
  if c7 then
  (some (true, m2))
  else
  ((Land_copyFrom 8 1 m2).bind fun m14 =>
  (Move_doOn move1 8 m14).bind fun m17 =>
  (lp (N_isWanted_s1 m17) FUEL 0).bind fun o20 => Sum.elim (fun _ => some (true, m17)) (fun r39 => some r39) o20))
  else
  (some (false, m2))
def Land_nobodyOwes_s1 (m1 : MI) (t : Nat) : Int32 → Option ((Int32) ⊕ ((Unit) ⊕ (Bool))) := fun p6 =>
  if p6 < (m1.1 t 1) then
  ((Land_coinsOf t p6 m1).bind fun r8 =>
  if r8 < 0 then
  (some (.inr (.inr false)))
  else
  ((some (p6 + 1) : Option Int32).bind fun i13 =>
  some (.inl i13)))
  else
  (some (.inr (.inl ())))
def Land_nobodyOwes (t : Nat) (m1 : MI) : Option (Bool) :=
  (lp (Land_nobodyOwes_s1 m1 t) FUEL 0).bind fun o2 => Sum.elim (fun _ => some true) (fun r18 => some r18) o2
def N_mayBeDone (move1 : Nat) (m2 : MI) : Option (Bool × MI) :=
  (Land_copyFrom 8 1 m2).bind fun m3 =>
  (Move_isAsTold move1 8 m3).bind fun b6 =>
  if b6 then
  ((Move_doOn move1 8 m3).bind fun m10 =>
  ((Land_isLawful 8 m10).bind fun b19 =>
  if b19 then ((Land_nobodyOwes 8 m10).bind fun b23 =>
  some (b23)) else (some false)).bind fun c13 =>
  some (c13, m10))
  else
  (some (false, m3))
def Move_isThere (t : Nat) (land1 : Nat) (m2 : MI) : Option (Bool) :=
  ((Land_isPerson land1 (m2.1 t 1) m2).bind fun b43 =>
  if b43 then ((Land_isField land1 (m2.1 t 2) m2).bind fun b47 =>
  some (!b47)) else (some true)).bind fun c3 =>
  if c3 then
  (some false)
  else
  ((if (m2.1 t 0) = 2 then (some true) else (if (m2.1 t 0) = 3 then (some true) else (some (decide ((m2.1 t 0) = 5))))).bind fun c10 =>
  (if c10 then ((Land_isField land1 (m2.1 t 3) m2).bind fun b39 =>
  some (!b39)) else (some false)).bind fun c20 =>
  if c20 then
  (some false)
  else
  ((if (m2.1 t 0) ≠ 3 then (some true) else ((Land_isField land1 (m2.1 t 4) m2).bind fun b35 =>
  some (b35))).bind fun c27 =>
  some c27))
def N_moveRefusal (shelf1 : Nat) (m2 : MI) : Option (Int32) :=
  (Shelf_refusalUnless shelf1 1 m2).bind fun r3 =>
  (if r3 = 0 then ((Move_isThere (shelf1 + 1) 1 m2).bind fun b14 =>
  some (!b14)) else (some false)).bind fun c6 =>
  if c6 then
  (some (-13))
  else
  (some r3)
def N_may (d1 : Int32) (what2 : Int32) (m3 : MI) : Option (Int32 × MI) :=
  onN (N_shelfAt d1)
  (some ((-1), m3))
  (fun s5 => (if what2 < 0 then (some true) else (some (decide (1 < what2)))).bind fun c9 =>
  if c9 then
  (some ((-1), m3))
  else
  ((N_moveRefusal s5 m3).bind fun r16 =>
  if r16 ≠ 0 then
  (some (r16, m3))
  else
  ((if what2 = 0 then
  ((N_mayBeDone (s5 + 1) m3).bind fun (b27, m28) =>
  some (b27, m28))
  else
  ((N_isWanted (s5 + 1) m3).bind fun (b33, m34) =>
  some (b33, m34)) : Option (Bool × MI)).bind fun (b21, m22) =>
  (if b21 then
  (some 1)
  else
  (some 0) : Option (Int32)).bind fun x38 =>
  some (x38, m22))))
def N_move_s1 (m14 : MI) : Int32 × Int32 → Option ((Int32 × Int32) ⊕ (Int32)) := fun (changed22, f23) =>
  if f23 < (m14.1 1 0) then
  (((Land_ownerOf 8 f23 m14).bind fun r30 =>
  (Land_ownerOf 1 f23 m14).bind fun r33 =>
  if r30 = r33 then
  (some 0)
  else
  (some 1) : Option (Int32)).bind fun x26 =>
  (some (changed22 + x26) : Option Int32).bind fun changed38 =>
  (some (f23 + 1) : Option Int32).bind fun i41 =>
  some (.inl (changed38, i41)))
  else
  (some (.inr changed22))
def N_move (d1 : Int32) (m2 : MI) : Option (Int32 × MI) :=
  onN (N_shelfAt d1)
  (some ((-1), m2))
  (fun s4 => (N_moveRefusal s4 m2).bind fun r8 =>
  if r8 ≠ 0 then
  (some (r8, m2))
  else
  ((N_mayBeDone (s4 + 1) m2).bind fun (b13, m14) =>
  if b13 then
  ((lp (N_move_s1 m14) FUEL (0, 0)).bind fun changed24 =>
  (Land_copyFrom 1 8 m14).bind fun m46 =>
  some (changed24, m46))
  else
  (some ((-3), m14))))
def N_judge_s1 (s4 : Nat) : Int32 × MI → Option ((Int32 × MI) ⊕ ((MI) ⊕ (Int32 × MI))) := fun (i20, m21) =>
  if (i20 + 1) < (m21.1 s4 2) then
  ((Shelf_at s4 i20 m21).bind fun r24 =>
  (Shelf_at s4 (i20 + 1) m21).bind fun r27 =>
  (Land_give 8 r24 r27 m21).bind fun (b30, m31) =>
  (if b30 then ((Land_isLawful 8 m31).bind fun b45 =>
  some (!b45)) else (some true)).bind fun c34 =>
  if c34 then
  (some (.inr (.inr (i20, m31))))
  else
  ((some (i20 + 2) : Option Int32).bind fun i41 =>
  some (.inl (i41, m31))))
  else
  (some (.inr (.inl m21)))
def N_judge (d1 : Int32) (m2 : MI) : Option (Int32 × MI) :=
  onN (N_shelfAt d1)
  (some ((-1), m2))
  (fun s4 => (Shelf_bytesRefusal s4 m2).bind fun r8 =>
  if r8 ≠ 0 then
  (some (r8, m2))
  else
  ((Land_copyFrom 8 1 m2).bind fun m13 =>
  (lp (N_judge_s1 s4) FUEL (0, m13)).bind fun o16 => Sum.elim (fun m22 => (if (rm32 (m22.1 s4 2) 2) = 1 then
  (some (m22.1 s4 2))
  else
  (some (-4)) : Option (Int32)).bind fun x51 =>
  some (x51, m22)) (fun r57 => some r57) o16))
def Numbering_canHave_s1 (f2 : Int32) (m4 : MI) (p3 : Int32) (land1 : Nat) : Int32 → Option ((Int32) ⊕ ((Unit) ⊕ (Bool))) := fun g9 =>
  (if g9 < f2 then (some (decide (g9 < 6))) else (some false)).bind fun c10 =>
  if c10 then
  (((ldA 6 m4 29 g9).bind fun x25 =>
  if x25 = p3 then ((Land_bars land1 g9 f2 m4).bind fun b29 =>
  some (b29)) else (some false)).bind fun c15 =>
  if c15 then
  (some (.inr (.inr false)))
  else
  ((some (g9 + 1) : Option Int32).bind fun i22 =>
  some (.inl i22)))
  else
  (some (.inr (.inl ())))
def Numbering_canHave (land1 : Nat) (f2 : Int32) (p3 : Int32) (m4 : MI) : Option (Bool) :=
  (lp (Numbering_canHave_s1 f2 m4 p3 land1) FUEL 0).bind fun o5 => Sum.elim (fun _ => some true) (fun r38 => some r38) o5
def Numbering_numberFrom_s1 (people3 : Int32) (land1 : Nat) (f2 : Int32) (rec_ : Nat → Int32 → Int32 → MI → Option (Bool × MI)) : Int32 × MI → Option ((Int32 × MI) ⊕ ((MI) ⊕ (Bool × MI))) := fun (p16, m17) =>
  if p16 < people3 then
  (((Numbering_canHave land1 f2 p16 m17).bind fun b25 =>
  if b25 then
  ((stA 6 m17 29 f2 p16).bind fun m29 =>
  (rec_ land1 (f2 + 1) people3 m29).bind fun (b32, m33) =>
  if b32 then
  (some (.inr (true, m33)))
  else
  (some (.inl m33)))
  else
  (some (.inl m17)) : Option ((MI) ⊕ (Bool × MI))).bind fun o20 => Sum.elim (fun m23 => (some (p16 + 1) : Option Int32).bind fun i40 =>
  some (.inl (i40, m23))) (fun r43 => some (.inr (.inr r43))) o20)
  else
  (some (.inr (.inl m17)))
def Numbering_numberFrom : Nat → Nat → Int32 → Int32 → MI → Option (Bool × MI)
  | 0, _, _, _, _ => none
  | n_ + 1, land1, f2, people3, m4 =>
  (if f2 < 0 then (some true) else (if 6 ≤ f2 then (some true) else (some (decide ((m4.1 land1 0) ≤ f2))))).bind fun c5 =>
  if c5 then
  (some (true, m4))
  else
  ((lp (Numbering_numberFrom_s1 people3 land1 f2 (Numbering_numberFrom n_)) FUEL (0, m4)).bind fun o12 => Sum.elim (fun m18 => some (false, m18)) (fun r46 => some r46) o12)
def Numbering_fewestFor_s1 (land1 : Nat) : Int32 × MI → Option ((Int32 × MI) ⊕ ((MI) ⊕ (Int32 × MI))) := fun (people7, m8) =>
  if people7 < 6 then
  ((Numbering_numberFrom 20 land1 0 people7 m8).bind fun (b11, m12) =>
  if b11 then
  (some (.inr (.inr (people7, m12))))
  else
  ((some (people7 + 1) : Option Int32).bind fun i17 =>
  some (.inl (i17, m12))))
  else
  (some (.inr (.inl m8)))
def Numbering_fewestFor (land1 : Nat) (m2 : MI) : Option (Int32 × MI) :=
  (lp (Numbering_fewestFor_s1 land1) FUEL (0, m2)).bind fun o3 => Sum.elim (fun m9 => (Numbering_numberFrom 20 land1 0 6 m9).bind fun (b22, m23) =>
  some (6, m23)) (fun r26 => some r26) o3
def Numbering_numberOf (f1 : Int32) (m2 : MI) : Option (Int32) :=
  ((if 0 ≤ f1 then (some (decide (f1 < 6))) else (some false)).bind fun c7 =>
  if c7 then
  ((ldA 6 m2 29 f1).bind fun x12 =>
  some x12)
  else
  (some 0) : Option (Int32)).bind fun x3 =>
  some x3
def N_fewest (field1 : Int32) (m2 : MI) : Option (Int32 × MI) :=
  (if field1 ≠ (-1) then ((Land_isField 1 field1 m2).bind fun b24 =>
  some (!b24)) else (some false)).bind fun c3 =>
  if c3 then
  (some ((-1), m2))
  else
  ((Numbering_fewestFor 1 m2).bind fun (r10, m11) =>
  (if field1 = (-1) then
  (some r10)
  else
  ((Numbering_numberOf field1 m11).bind fun r20 =>
  some r20) : Option (Int32)).bind fun x14 =>
  some (x14, m11))
def Land_barWithin_s1 (m2 : MI) (t : Nat) (bits1 : Int32) : Int32 → Option ((Int32) ⊕ ((Unit) ⊕ (Bool))) := fun f7 =>
  if f7 < (m2.1 t 0) then
  ((if ((bits1 >>> (f7 &&& 31)) &&& 1) = 1 then ((Land_barBits t f7 m2).bind fun r20 =>
  some (decide ((r20 &&& bits1) ≠ 0))) else (some false)).bind fun c9 =>
  if c9 then
  (some (.inr (.inr true)))
  else
  ((some (f7 + 1) : Option Int32).bind fun i16 =>
  some (.inl i16)))
  else
  (some (.inr (.inl ())))
def Land_barWithin (t : Nat) (bits1 : Int32) (m2 : MI) : Option (Bool) :=
  (lp (Land_barWithin_s1 m2 t bits1) FUEL 0).bind fun o3 => Sum.elim (fun _ => some false) (fun r26 => some r26) o3
def N_mostBits_s1 (m2 : MI) (person1 : Int32) : Int32 × Int32 → Option ((Int32 × Int32) ⊕ (Int32)) := fun (othersBits7, f8) =>
  if f8 < (m2.1 1 0) then
  ((Land_ownerOf 1 f8 m2).bind fun r11 =>
  ((if r11 = 9 then (some true) else (some (decide (r11 = person1)))).bind fun c18 =>
  if c18 then
  (some 0)
  else
  (some (1 <<< (f8 &&& 31))) : Option (Int32)).bind fun x14 =>
  (some (othersBits7 ||| x14) : Option Int32).bind fun othersBits27 =>
  (some (f8 + 1) : Option Int32).bind fun i30 =>
  some (.inl (othersBits27, i30)))
  else
  (some (.inr othersBits7))
def N_mostBits_s2 (m2 : MI) (person1 : Int32) (othersBits9 : Int32) : Int32 × Int32 × Int32 → Option ((Int32 × Int32 × Int32) ⊕ (Int32 × Int32)) := fun (mostBits39, mostWorth40, bits41) =>
  if bits41 < (1 <<< ((m2.1 1 0) &&& 31)) then
  ((Land_worthOfBits 1 person1 bits41 m2).bind fun r45 =>
  ((if mostWorth40 < r45 then (if (bits41 &&& othersBits9) = 0 then ((Land_barWithin 1 bits41 m2).bind fun b63 =>
  some (!b63)) else (some false)) else (some false)).bind fun c54 =>
  if c54 then
  (some (bits41, r45))
  else
  (some (mostBits39, mostWorth40)) : Option (Int32 × Int32)).bind fun (mostBits51, mostWorth52) =>
  (some (bits41 + 1) : Option Int32).bind fun i69 =>
  some (.inl (mostBits51, mostWorth52, i69)))
  else
  (some (.inr (mostBits39, mostWorth40)))
def N_mostBits (person1 : Int32) (m2 : MI) : Option (Int32) :=
  (lp (N_mostBits_s1 m2 person1) FUEL (0, 0)).bind fun othersBits9 =>
  (lp (N_mostBits_s2 m2 person1 othersBits9) FUEL (0, 0, 0)).bind fun (mostBits42, mostWorth43) =>
  some mostBits42
def N_most (person1 : Int32) (what2 : Int32) (m3 : MI) : Option (Int32) :=
  ((Land_isPerson 1 person1 m3).bind fun b23 =>
  if b23 then (if what2 < 0 then (some true) else (some (decide (1 < what2)))) else (some true)).bind fun c4 =>
  if c4 then
  (some (-1))
  else
  ((N_mostBits person1 m3).bind fun r11 =>
  (if what2 = 0 then
  (some r11)
  else
  ((Land_worthOfBits 1 person1 r11 m3).bind fun r20 =>
  some r20) : Option (Int32)).bind fun x14 =>
  some x14)
def Sharing_ownerFound (f1 : Int32) (m2 : MI) : Option (Int32) :=
  ((if 0 ≤ f1 then (some (decide (f1 < 6))) else (some false)).bind fun c7 =>
  if c7 then
  ((ldA 6 m2 26 f1).bind fun x12 =>
  some x12)
  else
  (some 9) : Option (Int32)).bind fun x3 =>
  some x3
def Land_greatestWorth_s1 (m2 : MI) (t : Nat) (f1 : Int32) : Int32 × Int32 → Option ((Int32 × Int32) ⊕ (Int32)) := fun (worth7, p8) =>
  if p8 < (m2.1 t 1) then
  ((Land_worthTo t p8 f1 m2).bind fun r11 =>
  (some (mx worth7 r11) : Option Int32).bind fun worth14 =>
  (some (p8 + 1) : Option Int32).bind fun i17 =>
  some (.inl (worth14, i17)))
  else
  (some (.inr worth7))
def Land_greatestWorth (t : Nat) (f1 : Int32) (m2 : MI) : Option (Int32) :=
  (lp (Land_greatestWorth_s1 m2 t f1) FUEL (0, 0)).bind fun worth9 =>
  some worth9
def Sharing_canHave_s1 (f2 : Int32) (m4 : MI) (land1 : Nat) (p3 : Int32) : Int32 → Option ((Int32) ⊕ ((Unit) ⊕ (Bool))) := fun g19 =>
  (if g19 < f2 then (some (decide (g19 < 6))) else (some false)).bind fun c20 =>
  if c20 then
  (((ldA 6 m4 25 g19).bind fun x35 =>
  (Land_asOne land1 x35 p3 m4).bind fun b38 =>
  if b38 then ((Land_bars land1 g19 f2 m4).bind fun b42 =>
  some (b42)) else (some false)).bind fun c25 =>
  if c25 then
  (some (.inr (.inr false)))
  else
  ((some (g19 + 1) : Option Int32).bind fun i32 =>
  some (.inl i32)))
  else
  (some (.inr (.inl ())))
def Sharing_canHave (land1 : Nat) (f2 : Int32) (p3 : Int32) (m4 : MI) : Option (Bool) :=
  (Land_ownerOf land1 f2 m4).bind fun r5 =>
  ((ldZ m4 24 1).bind fun b52 =>
  if b52 then (if r5 ≠ 9 then (some (decide (r5 ≠ p3))) else (some false)) else (some false)).bind fun c8 =>
  if c8 then
  (some false)
  else
  ((lp (Sharing_canHave_s1 f2 m4 land1 p3) FUEL 0).bind fun o15 => Sum.elim (fun _ => some true) (fun r51 => some r51) o15)
def Sharing_keepIfBetter (worth1 : Int32) (m2 : MI) : Option (MI) :=
  (if (m2.1 24 0) < worth1 then
  ((stF m2 24 0 worth1).bind fun m9 =>
  (acp 6 6 m9 25 0 26 0 6).bind fun m12 =>
  some m12)
  else
  (some m2) : Option (MI)).bind fun m6 =>
  some m6
def Sharing_tryFrom_s1 (land1 : Nat) (f2 : Int32) (rec_ : Nat → Int32 → Int32 → MI → Option (MI)) (worth3 : Int32) : Int32 × MI → Option ((Int32 × MI) ⊕ (MI)) := fun (n24, m25) =>
  if n24 ≤ (m25.1 land1 1) then
  ((if n24 = 0 then
  (some 9)
  else
  (some (n24 - 1)) : Option (Int32)).bind fun x28 =>
  ((Sharing_canHave land1 f2 x28 m25).bind fun b39 =>
  if b39 then
  ((stA 6 m25 25 f2 x28).bind fun m43 =>
  (Land_worthTo land1 x28 f2 m43).bind fun r46 =>
  (rec_ land1 (f2 + 1) (worth3 + r46) m43).bind fun m49 =>
  some m49)
  else
  (some m25) : Option (MI)).bind fun m37 =>
  (some (n24 + 1) : Option Int32).bind fun i54 =>
  some (.inl (i54, m37)))
  else
  (some (.inr m25))
def Sharing_tryFrom : Nat → Nat → Int32 → Int32 → MI → Option (MI)
  | 0, _, _, _, _ => none
  | n_ + 1, land1, f2, worth3, m4 =>
  (if f2 < 0 then (some true) else (if 6 ≤ f2 then (some true) else (some (decide ((m4.1 land1 0) ≤ f2))))).bind fun c5 =>
  if c5 then
  ((Sharing_keepIfBetter worth3 m4).bind fun m10 =>
  some m10)
  else
  ((ldA 7 m4 27 f2).bind fun x15 =>
  if (worth3 + x15) ≤ (m4.1 24 0) then
  (some m4)
  else
  ((lp (Sharing_tryFrom_s1 land1 f2 (Sharing_tryFrom n_) worth3) FUEL (0, m4)).bind fun m26 =>
  some m26))
def Sharing_search_s1 (land1 : Nat) : Int32 × MI → Option ((Int32 × MI) ⊕ (MI)) := fun (f17, m18) =>
  if 0 ≤ f17 then
  ((ldA 7 m18 27 (f17 + 1)).bind fun x21 =>
  (Land_greatestWorth land1 f17 m18).bind fun r24 =>
  (stA 7 m18 27 f17 (x21 + r24)).bind fun m27 =>
  (some (f17 + (-1)) : Option Int32).bind fun i30 =>
  some (.inl (i30, m27)))
  else
  (some (.inr m18))
def Sharing_search (land1 : Nat) (ownedStay2 : Bool) (m3 : MI) : Option (MI) :=
  (stZ m3 24 1 ownedStay2).bind fun m4 =>
  (stF m4 24 0 (-1)).bind fun m7 =>
  (stA 7 m7 27 6 0).bind fun m10 =>
  (lp (Sharing_search_s1 land1) FUEL (5, m10)).bind fun m19 =>
  (Sharing_tryFrom 20 land1 0 0 m19).bind fun m35 =>
  some m35
def N_best (field1 : Int32) (m2 : MI) : Option (Int32 × MI) :=
  (if field1 ≠ (-1) then ((Land_isField 1 field1 m2).bind fun b26 =>
  some (!b26)) else (some false)).bind fun c3 =>
  if c3 then
  (some ((-1), m2))
  else
  ((Sharing_search 1 false m2).bind fun m10 =>
  (if field1 = (-1) then
  (some (m10.1 24 0))
  else
  ((Sharing_ownerFound field1 m10).bind fun r19 =>
  (N_orNone r19).bind fun r22 =>
  some r22) : Option (Int32)).bind fun x13 =>
  some (x13, m10))
def N_withMusts (field1 : Int32) (m2 : MI) : Option (Int32 × MI) :=
  (if field1 ≠ (-1) then ((Land_isField 1 field1 m2).bind fun b31 =>
  some (!b31)) else (some false)).bind fun c3 =>
  if c3 then
  (some ((-1), m2))
  else
  ((Land_isLawful 1 m2).bind fun b10 =>
  if b10 then
  ((Sharing_search 1 true m2).bind fun m14 =>
  (if field1 = (-1) then
  (some (m14.1 24 0))
  else
  ((Sharing_ownerFound field1 m14).bind fun r23 =>
  (N_orNone r23).bind fun r26 =>
  some r26) : Option (Int32)).bind fun x17 =>
  some (x17, m14))
  else
  (some ((-4), m2)))
def Changes_codeOf_s1 (m2 : MI) (land1 : Nat) : Int32 × Int32 → Option ((Int32 × Int32) ⊕ (Int32)) := fun (code7, f8) =>
  if f8 < (m2.1 land1 0) then
  ((Land_ownerOf land1 f8 m2).bind fun r11 =>
  (if r11 = 9 then
  (some 3)
  else
  (some r11) : Option (Int32)).bind fun x14 =>
  (some (code7 ||| (x14 <<< ((2 * f8) &&& 31))) : Option Int32).bind fun code20 =>
  (some (f8 + 1) : Option Int32).bind fun i23 =>
  some (.inl (code20, i23)))
  else
  (some (.inr code7))
def Changes_codeOf (land1 : Nat) (m2 : MI) : Option (Int32) :=
  (lp (Changes_codeOf_s1 m2 land1) FUEL (0, 0)).bind fun code9 =>
  some code9
def Changes_isLawful_s2 (m3 : MI) (a8 : Int32) (land1 : Nat) (code2 : Int32) : Int32 → Option ((Int32) ⊕ ((Unit) ⊕ (Bool))) := fun b17 =>
  if b17 < 6 then
  (((ldA 6 m3 33 a8).bind fun x25 =>
  some (decide (((x25 >>> (b17 &&& 31)) &&& 1) = 1))).bind fun c19 =>
  (if c19 then ((Land_asOne land1 ((code2 >>> ((2 * a8) &&& 31)) &&& 3) ((code2 >>> ((2 * b17) &&& 31)) &&& 3) m3).bind fun b39 =>
  some (b39)) else (some false)).bind fun c28 =>
  if c28 then
  (some (.inr (.inr false)))
  else
  ((some (b17 + 1) : Option Int32).bind fun i35 =>
  some (.inl i35)))
  else
  (some (.inr (.inl ())))
def Changes_isLawful_s1 (m3 : MI) (land1 : Nat) (code2 : Int32) : Int32 → Option ((Int32) ⊕ ((Unit) ⊕ (Bool))) := fun a8 =>
  if a8 < 6 then
  ((some (a8 + 1) : Option Int32).bind fun b10 =>
  (lp (Changes_isLawful_s2 m3 a8 land1 code2) FUEL b10).bind fun o13 => Sum.elim (fun _ => (some (a8 + 1) : Option Int32).bind fun i45 =>
  some (.inl i45)) (fun r48 => some (.inr (.inr r48))) o13)
  else
  (some (.inr (.inl ())))
def Changes_isLawful (land1 : Nat) (code2 : Int32) (m3 : MI) : Option (Bool) :=
  (lp (Changes_isLawful_s1 m3 land1 code2) FUEL 0).bind fun o4 => Sum.elim (fun _ => some true) (fun r51 => some r51) o4
def Changes_isSeen (code1 : Int32) (m2 : MI) : Option (Bool) :=
  (if 0 ≤ code1 then (if code1 < 4096 then ((ldA 128 m2 31 (code1 / 32)).bind fun x11 =>
  some (decide (((x11 >>> ((rm32 code1 32) &&& 31)) &&& 1) = 1))) else (some false)) else (some false)).bind fun c3 =>
  some c3
def Changes_markSeen (code1 : Int32) (m2 : MI) : Option (MI) :=
  ((if 0 ≤ code1 then (some (decide (code1 < 4096))) else (some false)).bind fun c8 =>
  if c8 then
  ((ldA 128 m2 31 (code1 / 32)).bind fun x13 =>
  (stA 128 m2 31 (code1 / 32) (x13 ||| (1 <<< ((rm32 code1 32) &&& 31)))).bind fun m16 =>
  some m16)
  else
  (some m2) : Option (MI)).bind fun m6 =>
  some m6
def Changes_reach (code1 : Int32) (m2 : MI) : Option (MI) :=
  ((if 0 ≤ (m2.1 30 2) then (some (decide ((m2.1 30 2) < 729))) else (some false)).bind fun c8 =>
  if c8 then
  ((stA 729 m2 32 (m2.1 30 2) code1).bind fun m13 =>
  (stF m13 30 2 ((m13.1 30 2) + 1)).bind fun m16 =>
  some m16)
  else
  (some m2) : Option (MI)).bind fun m6 =>
  some m6
def Changes_look (land1 : Nat) (code2 : Int32) (m3 : MI) : Option (MI) :=
  ((Changes_isSeen code2 m3).bind fun b9 =>
  if b9 then
  (some m3)
  else
  ((Changes_markSeen code2 m3).bind fun m14 =>
  ((Changes_isLawful land1 code2 m14).bind fun b22 =>
  if b22 then
  ((Changes_reach code2 m14).bind fun m26 =>
  some m26)
  else
  (some m14) : Option (MI)).bind fun m20 =>
  some m20) : Option (MI)).bind fun m7 =>
  some m7
def Changes_widenFrom_s1 (land1 : Nat) (code2 : Int32) (end3 : Int32) : Int32 × MI → Option ((Int32 × MI) ⊕ (MI)) := fun (f9, m10) =>
  if f9 < (m10.1 land1 0) then
  ((some (3 <<< ((2 * f9) &&& 31)) : Option Int32).bind fun field13 =>
  (Changes_look land1 (code2 ||| field13) m10).bind fun m16 =>
  (Changes_look land1 ((code2 &&& (field13 ^^^ (-1))) ||| (end3 &&& field13)) m16).bind fun m19 =>
  (some (f9 + 1) : Option Int32).bind fun i22 =>
  some (.inl (i22, m19)))
  else
  (some (.inr m10))
def Changes_widenFrom (land1 : Nat) (code2 : Int32) (end3 : Int32) (m4 : MI) : Option (MI) :=
  (lp (Changes_widenFrom_s1 land1 code2 end3) FUEL (0, m4)).bind fun m11 =>
  some m11
def Land_writeBars_s1 (t : Nat) (bars1 : Nat) : Int32 × MI → Option ((Int32 × MI) ⊕ (MI)) := fun (f7, m8) =>
  if f7 < 6 then
  ((Land_barBits t f7 m8).bind fun r11 =>
  (stA 6 m8 bars1 f7 r11).bind fun m14 =>
  (some (f7 + 1) : Option Int32).bind fun i17 =>
  some (.inl (i17, m14)))
  else
  (some (.inr m8))
def Land_writeBars (t : Nat) (bars1 : Nat) (m2 : MI) : Option (MI) :=
  (lp (Land_writeBars_s1 t bars1) FUEL (0, m2)).bind fun m9 =>
  some m9
def Changes_fewestBetween_s2 (ringEnd45 : Int32) (from1 : Nat) (r7 : Int32) : Int32 × MI → Option ((Int32 × MI) ⊕ (Int32 × MI)) := fun (done52, m53) =>
  (if done52 < ringEnd45 then (some (decide (done52 < 729))) else (some false)).bind fun c56 =>
  if c56 then
  ((ldA 729 m53 32 done52).bind fun x61 =>
  (Changes_widenFrom from1 x61 r7 m53).bind fun m64 =>
  (some (done52 + 1) : Option Int32).bind fun i67 =>
  some (.inl (i67, m64)))
  else
  (some (.inr (done52, m53)))
def Changes_fewestBetween_s1 (from1 : Nat) (r7 : Int32) : Int32 × Int32 × MI → Option ((Int32 × Int32 × MI) ⊕ ((Int32 × MI) ⊕ (Int32 × MI))) := fun (done35, steps36, m37) =>
  (if steps36 < 729 then (some (decide (done35 < (m37.1 30 2)))) else (some false)).bind fun c40 =>
  if c40 then
  ((some (m37.1 30 2) : Option Int32).bind fun ringEnd45 =>
  (lp (Changes_fewestBetween_s2 ringEnd45 from1 r7) FUEL (done35, m37)).bind fun (done54, m55) =>
  (Changes_isSeen r7 m55).bind fun b75 =>
  if b75 then
  (some (.inr (.inr (steps36, m55))))
  else
  ((some (steps36 + 1) : Option Int32).bind fun i80 =>
  some (.inl (done54, i80, m55))))
  else
  (some (.inr (.inl (done35, m37))))
def Changes_fewestBetween (from1 : Nat) (to2 : Nat) (m3 : MI) : Option (Int32 × MI) :=
  (Changes_codeOf from1 m3).bind fun r4 =>
  (Changes_codeOf to2 m3).bind fun r7 =>
  if r4 = r7 then
  (some (0, m3))
  else
  ((Land_writeBars from1 33 m3).bind fun m12 =>
  (Changes_isLawful from1 r7 m12).bind fun b15 =>
  if b15 then
  ((flA 128 m12 31 0).bind fun m19 =>
  (stF m19 30 2 0).bind fun m22 =>
  (Changes_markSeen r4 m22).bind fun m25 =>
  (Changes_reach r4 m25).bind fun m28 =>
  (lp (Changes_fewestBetween_s1 from1 r7) FUEL (0, 1, m28)).bind fun o31 => Sum.elim (fun (done38, m39) => some ((-4), m39)) (fun r88 => some r88) o31)
  else
  (some ((-4), m12)))
def N_chain_s1 (s4 : Nat) : Int32 × MI → Option ((Int32 × MI) ⊕ ((MI) ⊕ (Int32 × MI))) := fun (f22, m23) =>
  if f22 < (m23.1 1 0) then
  ((Shelf_at s4 f22 m23).bind fun r26 =>
  (Land_give 8 r26 f22 m23).bind fun (b29, m30) =>
  if b29 then
  ((some (f22 + 1) : Option Int32).bind fun i34 =>
  some (.inl (i34, m30)))
  else
  (some (.inr (.inr ((-13), m30)))))
  else
  (some (.inr (.inl m23)))
def N_chain (d1 : Int32) (m2 : MI) : Option (Int32 × MI) :=
  onN (N_shelfAt d1)
  (some ((-1), m2))
  (fun s4 => (Shelf_bytesRefusal s4 m2).bind fun r8 =>
  if r8 ≠ 0 then
  (some (r8, m2))
  else
  (if (m2.1 s4 2) ≠ (m2.1 1 0) then
  (some ((-13), m2))
  else
  ((Land_copyFrom 8 1 m2).bind fun m15 =>
  (lp (N_chain_s1 s4) FUEL (0, m15)).bind fun o18 => Sum.elim (fun m24 => (Changes_fewestBetween 1 8 m24).bind fun (r40, m41) =>
  some (r40, m41)) (fun r44 => some r44) o18)))
def Land_worthToOwners_s1 (m2 : MI) (t : Nat) (bits1 : Int32) : Int32 × Int32 → Option ((Int32 × Int32) ⊕ (Int32)) := fun (worth7, f8) =>
  if f8 < (m2.1 t 0) then
  ((if ((bits1 >>> (f8 &&& 31)) &&& 1) = 1 then
  ((Land_ownerOf t f8 m2).bind fun r16 =>
  (Land_worthTo t r16 f8 m2).bind fun r19 =>
  some r19)
  else
  (some 0) : Option (Int32)).bind fun x11 =>
  (some (worth7 + x11) : Option Int32).bind fun worth23 =>
  (some (f8 + 1) : Option Int32).bind fun i26 =>
  some (.inl (worth23, i26)))
  else
  (some (.inr worth7))
def Land_worthToOwners (t : Nat) (bits1 : Int32) (m2 : MI) : Option (Int32) :=
  (lp (Land_worthToOwners_s1 m2 t bits1) FUEL (0, 0)).bind fun worth9 =>
  some worth9
def N_flood_s1 (m11 : MI) : Int32 × Int32 × Int32 → Option ((Int32 × Int32 × Int32) ⊕ (Int32 × Int32)) := fun (leastBits18, leastLoss19, bits20) =>
  if bits20 < (1 <<< ((m11.1 8 0) &&& 31)) then
  ((Land_worthToOwners 8 bits20 m11).bind fun r24 =>
  ((if r24 < leastLoss19 then ((Land_firstOffence 8 bits20 m11).bind fun r41 =>
  some (decide (r41 = (-4)))) else (some false)).bind fun c33 =>
  if c33 then
  (some (bits20, r24))
  else
  (some (leastBits18, leastLoss19)) : Option (Int32 × Int32)).bind fun (leastBits30, leastLoss31) =>
  (some (bits20 + 1) : Option Int32).bind fun i46 =>
  some (.inl (leastBits30, leastLoss31, i46)))
  else
  (some (.inr (leastBits18, leastLoss19)))
def N_flood (a1 : Int32) (b2 : Int32) (m3 : MI) : Option (Int32 × MI) :=
  (Land_areTwo 1 a1 b2 m3).bind fun b4 =>
  if b4 then
  ((Land_copyFrom 8 1 m3).bind fun m8 =>
  (Land_setTouch 8 a1 b2 1 m8).bind fun m11 =>
  (lp (N_flood_s1 m11) FUEL (0, 2147483647, 0)).bind fun (leastBits21, leastLoss22) =>
  some (leastBits21, m11))
  else
  (some ((-1), m3))
def N_worthWithLane (a1 : Int32) (b2 : Int32) (m3 : MI) : Option (Int32 × MI) :=
  (Land_setTouch 8 a1 b2 2 m3).bind fun m4 =>
  (Sharing_search 8 false m4).bind fun m7 =>
  (Land_setTouch 8 a1 b2 1 m7).bind fun m10 =>
  some ((m10.1 24 0), m10)
def N_frees_s2 (a17 : Int32) : Int32 × Int32 × Int32 × MI → Option ((Int32 × Int32 × Int32 × MI) ⊕ (Int32 × Int32 × MI)) := fun (most30, answer31, b32, m33) =>
  if b32 < (m33.1 8 0) then
  (((Land_touchOf 8 a17 b32 m33).bind fun r45 =>
  if r45 = 1 then
  ((N_worthWithLane a17 b32 m33).bind fun (r49, m50) =>
  (if most30 < r49 then
  (some ((10 * a17) + b32))
  else
  (some answer31) : Option (Int32)).bind fun x53 =>
  (some (mx most30 r49) : Option Int32).bind fun most59 =>
  some (most59, x53, m50))
  else
  (some (most30, answer31, m33)) : Option (Int32 × Int32 × MI)).bind fun (most41, answer42, m43) =>
  (some (b32 + 1) : Option Int32).bind fun i64 =>
  some (.inl (most41, answer42, i64, m43)))
  else
  (some (.inr (most30, answer31, m33)))
def N_frees_s1 : Int32 × Int32 × Int32 × MI → Option ((Int32 × Int32 × Int32 × MI) ⊕ (Int32 × Int32 × MI)) := fun (most15, answer16, a17, m18) =>
  if a17 < (m18.1 8 0) then
  ((some (a17 + 1) : Option Int32).bind fun b23 =>
  (lp (N_frees_s2 a17) FUEL (most15, answer16, b23, m18)).bind fun (most34, answer35, m36) =>
  (some (a17 + 1) : Option Int32).bind fun i69 =>
  some (.inl (most34, answer35, i69, m36)))
  else
  (some (.inr (most15, answer16, m18)))
def N_frees (m1 : MI) : Option (Int32 × MI) :=
  (Land_copyFrom 8 1 m1).bind fun m2 =>
  (Sharing_search 8 false m2).bind fun m5 =>
  (some (m5.1 24 0) : Option Int32).bind fun most8 =>
  (lp (N_frees_s1) FUEL (most8, (-4), 0, m5)).bind fun (most19, answer20, m21) =>
  some (answer20, m21)
def Play_winningFrom_s1 (free4 : Int32) (m6 : MI) (bars1 : Nat) (mine2 : Int32) (rec_ : Nat → Int32 → Int32 → Int32 → Int32 → MI → Option (Int32)) (theirs3 : Int32) (turn5 : Int32) : Int32 → Option ((Int32) ⊕ ((Unit) ⊕ (Int32))) := fun f13 =>
  if f13 < 6 then
  ((some (1 <<< (f13 &&& 31)) : Option Int32).bind fun bit15 =>
  (if (free4 &&& bit15) ≠ 0 then ((ldA 6 m6 bars1 f13).bind fun x29 =>
  if (x29 &&& mine2) = 0 then ((rec_ bars1 theirs3 (mine2 ||| bit15) (free4 &&& (bit15 ^^^ (-1))) (turn5 + 1) m6).bind fun r33 =>
  some (decide (r33 = (-4)))) else (some false)) else (some false)).bind fun c18 =>
  if c18 then
  (some (.inr (.inr f13)))
  else
  ((some (f13 + 1) : Option Int32).bind fun i25 =>
  some (.inl i25)))
  else
  (some (.inr (.inl ())))
def Play_winningFrom : Nat → Nat → Int32 → Int32 → Int32 → Int32 → MI → Option (Int32)
  | 0, _, _, _, _, _, _ => none
  | n_ + 1, bars1, mine2, theirs3, free4, turn5, m6 =>
  if 14 < turn5 then
  (some (-4))
  else
  ((lp (Play_winningFrom_s1 free4 m6 bars1 mine2 (Play_winningFrom n_) theirs3 turn5) FUEL 0).bind fun o9 => Sum.elim (fun _ => some (-4)) (fun r40 => some r40) o9)
def Play_winningField (land1 : Nat) (m2 : MI) : Option (Int32 × MI) :=
  (Land_writeBars land1 35 m2).bind fun m3 =>
  (Land_fieldBits land1 0 m3).bind fun r6 =>
  (Land_fieldBits land1 1 m3).bind fun r9 =>
  (Land_fieldBits land1 9 m3).bind fun r12 =>
  (Play_winningFrom 20 35 r6 r9 r12 0 m3).bind fun r15 =>
  some (r15, m3)
def N_game (what1 : Int32) (m2 : MI) : Option (Int32 × MI) :=
  (if what1 < 0 then (some true) else (some (decide (1 < what1)))).bind fun c3 =>
  if c3 then
  (some ((-1), m2))
  else
  (if (m2.1 1 1) < 2 then
  (some ((-3), m2))
  else
  ((Play_winningField 1 m2).bind fun (r12, m13) =>
  if what1 = 0 then
  ((if r12 = (-4) then
  (some 0)
  else
  (some 1) : Option (Int32)).bind fun x17 =>
  some (x17, m13))
  else
  (some (r12, m13))))
def Play_canTake_s1 (free3 : Int32) (m4 : MI) (bars1 : Nat) (mine2 : Int32) : Int32 → Option ((Int32) ⊕ ((Unit) ⊕ (Bool))) := fun f9 =>
  if f9 < 6 then
  ((if ((free3 >>> (f9 &&& 31)) &&& 1) = 1 then ((ldA 6 m4 bars1 f9).bind fun x22 =>
  some (decide ((x22 &&& mine2) = 0))) else (some false)).bind fun c11 =>
  if c11 then
  (some (.inr (.inr true)))
  else
  ((some (f9 + 1) : Option Int32).bind fun i18 =>
  some (.inl i18)))
  else
  (some (.inr (.inl ())))
def Play_canTake (bars1 : Nat) (mine2 : Int32) (free3 : Int32) (m4 : MI) : Option (Bool) :=
  (lp (Play_canTake_s1 free3 m4 bars1 mine2) FUEL 0).bind fun o5 => Sum.elim (fun _ => some false) (fun r28 => some r28) o5
def Play_leadFrom_s1 (free4 : Int32) (m6 : MI) (bars1 : Nat) (mine2 : Int32) (rec_ : Nat → Int32 → Int32 → Int32 → Int32 → MI → Option (Int32)) (theirs3 : Int32) (turn5 : Int32) : Int32 × Int32 → Option ((Int32 × Int32) ⊕ (Int32)) := fun (most17, f18) =>
  if f18 < 6 then
  ((some (1 <<< (f18 &&& 31)) : Option Int32).bind fun bit21 =>
  ((if (free4 &&& bit21) ≠ 0 then ((ldA 6 m6 bars1 f18).bind fun x43 =>
  some (decide ((x43 &&& mine2) = 0))) else (some false)).bind fun c29 =>
  if c29 then
  ((rec_ bars1 theirs3 (mine2 ||| bit21) (free4 &&& (bit21 ^^^ (-1))) (turn5 + 1) m6).bind fun r34 =>
  (some (mx most17 (1 - r34)) : Option Int32).bind fun most37 =>
  some most37)
  else
  (some most17) : Option (Int32)).bind fun most27 =>
  (some (f18 + 1) : Option Int32).bind fun i48 =>
  some (.inl (most27, i48)))
  else
  (some (.inr most17))
def Play_leadFrom : Nat → Nat → Int32 → Int32 → Int32 → Int32 → MI → Option (Int32)
  | 0, _, _, _, _, _, _ => none
  | n_ + 1, bars1, mine2, theirs3, free4, turn5, m6 =>
  if 14 < turn5 then
  (some 0)
  else
  ((Play_canTake bars1 mine2 free4 m6).bind fun b9 =>
  if b9 then
  ((lp (Play_leadFrom_s1 free4 m6 bars1 mine2 (Play_leadFrom n_) theirs3 turn5) FUEL ((-6), 0)).bind fun most19 =>
  some most19)
  else
  (((Play_canTake bars1 theirs3 free4 m6).bind fun b60 =>
  some (!b60)).bind fun c54 =>
  (if c54 then
  (some 0)
  else
  (((Play_leadFrom n_) bars1 theirs3 mine2 free4 (turn5 + 1) m6).bind fun r69 =>
  some (-r69)) : Option (Int32)).bind fun x63 =>
  some x63))
def Play_lead (land1 : Nat) (m2 : MI) : Option (Int32 × MI) :=
  (Land_writeBars land1 35 m2).bind fun m3 =>
  (Land_fieldBits land1 0 m3).bind fun r6 =>
  (Land_fieldBits land1 1 m3).bind fun r9 =>
  (Land_fieldBits land1 9 m3).bind fun r12 =>
  (Play_leadFrom 20 35 r6 r9 r12 0 m3).bind fun r15 =>
  some (r15, m3)
def N_value (m1 : MI) : Option (Int32 × MI) :=
  (if (m1.1 1 1) < 2 then
  (some ((-1000000003), m1))
  else
  ((Play_lead 1 m1).bind fun (r10, m11) =>
  some (r10, m11)) : Option (Int32 × MI)).bind fun (x2, m3) =>
  some (x2, m3)
def DeedBook_canStandWithout_s1 (m2 : MI) (struck1 : Int32) : Int32 → Option ((Int32) ⊕ ((Unit) ⊕ (Bool))) := fun i7 =>
  (if i7 < (m2.1 36 0) then (some (decide (i7 < 8))) else (some false)).bind fun c8 =>
  if c8 then
  ((if ((struck1 >>> (i7 &&& 31)) &&& 1) = 0 then ((ldA 8 m2 37 i7).bind fun x24 =>
  some (decide ((x24 &&& (struck1 ^^^ (-1))) ≠ 0))) else (some false)).bind fun c13 =>
  if c13 then
  (some (.inr (.inr false)))
  else
  ((some (i7 + 1) : Option Int32).bind fun i20 =>
  some (.inl i20)))
  else
  (some (.inr (.inl ())))
def DeedBook_canStandWithout (struck1 : Int32) (m2 : MI) : Option (Bool) :=
  (lp (DeedBook_canStandWithout_s1 m2 struck1) FUEL 0).bind fun o3 => Sum.elim (fun _ => some true) (fun r33 => some r33) o3
def DeedBook_fewestStruck_s1 (m1 : MI) : Int32 × Int32 → Option ((Int32 × Int32) ⊕ (Int32)) := fun (fewest9, bits10) =>
  if bits10 < (1 <<< ((m1.1 36 0) &&& 31)) then
  (((if (bc bits10) < (bc fewest9) then ((DeedBook_canStandWithout bits10 m1).bind fun b26 =>
  some (b26)) else (some false)).bind fun c18 =>
  if c18 then
  (some bits10)
  else
  (some fewest9) : Option (Int32)).bind fun fewest16 =>
  (some (bits10 + 1) : Option Int32).bind fun i31 =>
  some (.inl (fewest16, i31)))
  else
  (some (.inr fewest9))
def DeedBook_fewestStruck (m1 : MI) : Option (Int32) :=
  (some ((1 <<< ((m1.1 36 0) &&& 31)) - 1) : Option Int32).bind fun fewest2 =>
  (lp (DeedBook_fewestStruck_s1 m1) FUEL (fewest2, 0)).bind fun fewest11 =>
  some fewest11
def DeedBook_clash (land1 : Nat) (row2 : Nat) (x3 : Int32) (otherAt4 : Int32) (m5 : MI) : Option (Bool) :=
  (Shelf_at row2 (x3 + 2) m5).bind fun r6 =>
  (Shelf_at row2 (otherAt4 + 2) m5).bind fun r9 =>
  if r6 ≠ r9 then
  (some false)
  else
  (((Shelf_at row2 x3 m5).bind fun r20 =>
  (Shelf_at row2 otherAt4 m5).bind fun r23 =>
  some (decide (r20 = r23))).bind fun c14 =>
  ((Shelf_at row2 (x3 + 1) m5).bind fun r32 =>
  (Shelf_at row2 (otherAt4 + 1) m5).bind fun r35 =>
  some (decide (r32 = r35))).bind fun c26 =>
  (if c14 then
  ((Shelf_at row2 (x3 + 1) m5).bind fun r43 =>
  (Shelf_at row2 (otherAt4 + 1) m5).bind fun r46 =>
  (Land_bars land1 r43 r46 m5).bind fun b49 =>
  some b49)
  else
  (some c26) : Option (Bool)).bind fun b38 =>
  some b38)
def DeedBook_clashesOf_s1 (m4 : MI) (land1 : Nat) (row2 : Nat) (deed3 : Int32) : Int32 × Int32 → Option ((Int32 × Int32) ⊕ (Int32)) := fun (bits9, i10) =>
  if i10 < (m4.1 36 0) then
  (((DeedBook_clash land1 row2 (3 * deed3) (3 * i10) m4).bind fun b17 =>
  if b17 then
  (some (1 <<< (i10 &&& 31)))
  else
  (some 0) : Option (Int32)).bind fun x13 =>
  (some (bits9 ||| x13) : Option Int32).bind fun bits22 =>
  (some (i10 + 1) : Option Int32).bind fun i25 =>
  some (.inl (bits22, i25)))
  else
  (some (.inr bits9))
def DeedBook_clashesOf (land1 : Nat) (row2 : Nat) (deed3 : Int32) (m4 : MI) : Option (Int32) :=
  (lp (DeedBook_clashesOf_s1 m4 land1 row2 deed3) FUEL (0, 0)).bind fun bits11 =>
  some bits11
def DeedBook_isAsTold (land1 : Nat) (row2 : Nat) (x3 : Int32) (m4 : MI) : Option (Bool) :=
  (Shelf_at row2 (x3 + 2) m4).bind fun r5 =>
  ((Shelf_at row2 x3 m4).bind fun r14 =>
  (Land_isPerson land1 r14 m4).bind fun b17 =>
  if b17 then ((Shelf_at row2 (x3 + 1) m4).bind fun r21 =>
  (Land_isField land1 r21 m4).bind fun b24 =>
  if b24 then (if 0 ≤ r5 then (some (decide (r5 ≤ 9))) else (some false)) else (some false)) else (some false)).bind fun c8 =>
  some c8
def DeedBook_write_s1 (m11 : MI) (land1 : Nat) (row2 : Nat) : Int32 → Option ((Int32) ⊕ ((Unit) ⊕ (Bool × MI))) := fun i18 =>
  if i18 < (m11.1 36 0) then
  ((DeedBook_isAsTold land1 row2 (3 * i18) m11).bind fun b20 =>
  if b20 then
  ((some (i18 + 1) : Option Int32).bind fun i24 =>
  some (.inl i24))
  else
  (some (.inr (.inr (false, m11)))))
  else
  (some (.inr (.inl ())))
def DeedBook_write_s2 (land1 : Nat) (row2 : Nat) : Int32 × MI → Option ((Int32 × MI) ⊕ (MI)) := fun (i34, m35) =>
  (if i34 < (m35.1 36 0) then (some (decide (i34 < 8))) else (some false)).bind fun c37 =>
  if c37 then
  ((DeedBook_clashesOf land1 row2 i34 m35).bind fun r42 =>
  (stA 8 m35 37 i34 r42).bind fun m45 =>
  (some (i34 + 1) : Option Int32).bind fun i48 =>
  some (.inl (i48, m45)))
  else
  (some (.inr m35))
def DeedBook_write (land1 : Nat) (row2 : Nat) (m3 : MI) : Option (Bool × MI) :=
  (if (rm32 (m3.1 row2 2) 3) ≠ 0 then (some true) else (some (decide (8 < ((m3.1 row2 2) / 3))))).bind fun c4 =>
  if c4 then
  (some (false, m3))
  else
  ((stF m3 36 0 ((m3.1 row2 2) / 3)).bind fun m11 =>
  (lp (DeedBook_write_s1 m11 land1 row2) FUEL 0).bind fun o14 => Sum.elim (fun _ => (lp (DeedBook_write_s2 land1 row2) FUEL (0, m11)).bind fun m36 =>
  some (true, m36)) (fun r56 => some r56) o14)
def N_deeds (d1 : Int32) (what2 : Int32) (m3 : MI) : Option (Int32 × MI) :=
  onN (N_shelfAt d1)
  (some ((-1), m3))
  (fun s5 => (if what2 < 0 then (some true) else (some (decide (1 < what2)))).bind fun c9 =>
  if c9 then
  (some ((-1), m3))
  else
  ((Shelf_bytesRefusal s5 m3).bind fun r16 =>
  if r16 ≠ 0 then
  (some (r16, m3))
  else
  ((DeedBook_write 1 s5 m3).bind fun (b21, m22) =>
  if b21 then
  ((DeedBook_fewestStruck m22).bind fun r26 =>
  (if what2 = 0 then
  (some r26)
  else
  (some (bc r26)) : Option (Int32)).bind fun x29 =>
  some (x29, m22))
  else
  (some ((-13), m22)))))
def Land_ownedCount_s1 (m1 : MI) (t : Nat) : Int32 × Int32 → Option ((Int32 × Int32) ⊕ (Int32)) := fun (owned6, f7) =>
  if f7 < (m1.1 t 0) then
  (((Land_ownerOf t f7 m1).bind fun r14 =>
  if r14 = 9 then
  (some 0)
  else
  (some 1) : Option (Int32)).bind fun x10 =>
  (some (owned6 + x10) : Option Int32).bind fun owned19 =>
  (some (f7 + 1) : Option Int32).bind fun i22 =>
  some (.inl (owned19, i22)))
  else
  (some (.inr owned6))
def Land_ownedCount (t : Nat) (m1 : MI) : Option (Int32) :=
  (lp (Land_ownedCount_s1 m1 t) FUEL (0, 0)).bind fun owned8 =>
  some owned8
def N_drawBelow (seed1 : Int32) (n2 : Int32) : Option (Int32) :=
  (if 0 < n2 then
  ((rmO ((seed1 &&& 2147483647) / 65536) n2).bind fun q8 =>
  some q8)
  else
  (some 0) : Option (Int32)).bind fun x3 =>
  some x3
def N_drawInMind (field1 : Int32) (person2 : Int32) (m3 : MI) : Option (MI) :=
  if (m3.1 8 1) ≤ person2 then
  (some m3)
  else
  ((Land_give 8 person2 field1 m3).bind fun (b6, m7) =>
  ((Land_isLawful 8 m7).bind fun b15 =>
  if b15 then
  (some m7)
  else
  ((Land_give 8 9 field1 m7).bind fun (b20, m21) =>
  some m21) : Option (MI)).bind fun m13 =>
  some m13)
def N_lots_s1 : Int32 × Int32 × MI → Option ((Int32 × Int32 × MI) ⊕ (Int32 × MI)) := fun (seed18, f19, m20) =>
  if f19 < (m20.1 8 0) then
  (((Land_ownerOf 8 f19 m20).bind fun r30 =>
  if r30 = 9 then
  ((some ((seed18 * 1103515245) + 12345) : Option Int32).bind fun seed34 =>
  (N_drawBelow seed34 ((m20.1 8 1) + 1)).bind fun r37 =>
  (N_drawInMind f19 r37 m20).bind fun m40 =>
  some (seed34, m40))
  else
  (some (seed18, m20)) : Option (Int32 × MI)).bind fun (seed27, m28) =>
  (some (f19 + 1) : Option Int32).bind fun i45 =>
  some (.inl (seed27, i45, m28)))
  else
  (some (.inr (seed18, m20)))
def N_lots (z1 : Int32) (what2 : Int32) (m3 : MI) : Option (Int32 × MI) :=
  (if what2 < 0 then (some true) else (some (decide (1 < what2)))).bind fun c4 =>
  if c4 then
  (some ((-1), m3))
  else
  ((Land_copyFrom 8 1 m3).bind fun m11 =>
  (lp (N_lots_s1) FUEL (z1, 0, m11)).bind fun (seed21, m22) =>
  (some ((1 <<< ((m22.1 8 0) &&& 31)) - 1) : Option Int32).bind fun all50 =>
  (if what2 = 0 then
  ((Land_ownedCount 8 m22).bind fun r58 =>
  some r58)
  else
  ((Land_worthToOwners 8 all50 m22).bind fun r62 =>
  some r62) : Option (Int32)).bind fun x53 =>
  some (x53, m22))
def N_image (m1 : MI) : Option (Int32 × MI) :=
  (Land_copyFrom 15 1 m1).bind fun m2 =>
  (stZ m2 0 3 true).bind fun m5 =>
  some ((m5.1 1 0), m5)
def N_restore (m1 : MI) : Option (Int32 × MI) :=
  (ldZ m1 0 3).bind fun b2 =>
  if b2 then
  ((Land_copyFrom 1 15 m1).bind fun m6 =>
  some ((m6.1 1 0), m6))
  else
  (some ((-3), m1))
def Land_allAcres_s1 (m1 : MI) (t : Nat) : Int32 × Int32 → Option ((Int32 × Int32) ⊕ (Int32)) := fun (sum6, f7) =>
  if f7 < (m1.1 t 0) then
  ((Land_acresOf t f7 m1).bind fun r10 =>
  (some (sum6 + r10) : Option Int32).bind fun sum13 =>
  (some (f7 + 1) : Option Int32).bind fun i16 =>
  some (.inl (sum13, i16)))
  else
  (some (.inr sum6))
def Land_allAcres (t : Nat) (m1 : MI) : Option (Int32) :=
  (lp (Land_allAcres_s1 m1 t) FUEL (0, 0)).bind fun sum8 =>
  some sum8
def Land_allCoins_s1 (m1 : MI) (t : Nat) : Int32 × Int32 → Option ((Int32 × Int32) ⊕ (Int32)) := fun (sum6, p7) =>
  if p7 < (m1.1 t 1) then
  ((Land_coinsOf t p7 m1).bind fun r10 =>
  (some (sum6 + r10) : Option Int32).bind fun sum13 =>
  (some (p7 + 1) : Option Int32).bind fun i16 =>
  some (.inl (sum13, i16)))
  else
  (some (.inr sum6))
def Land_allCoins (t : Nat) (m1 : MI) : Option (Int32) :=
  (lp (Land_allCoins_s1 m1 t) FUEL (0, 0)).bind fun sum8 =>
  some sum8
def Land_touchCount_s2 (m2 : MI) (t : Nat) (a8 : Int32) (how1 : Int32) : Int32 × Int32 → Option ((Int32 × Int32) ⊕ (Int32)) := fun (touching18, b19) =>
  if b19 < (m2.1 t 0) then
  (((Land_touchOf t a8 b19 m2).bind fun r26 =>
  if r26 = how1 then
  (some 1)
  else
  (some 0) : Option (Int32)).bind fun x22 =>
  (some (touching18 + x22) : Option Int32).bind fun touching31 =>
  (some (b19 + 1) : Option Int32).bind fun i34 =>
  some (.inl (touching31, i34)))
  else
  (some (.inr touching18))
def Land_touchCount_s1 (m2 : MI) (t : Nat) (how1 : Int32) : Int32 × Int32 → Option ((Int32 × Int32) ⊕ (Int32)) := fun (touching7, a8) =>
  if a8 < (m2.1 t 0) then
  ((some (a8 + 1) : Option Int32).bind fun b11 =>
  (lp (Land_touchCount_s2 m2 t a8 how1) FUEL (touching7, b11)).bind fun touching20 =>
  (some (a8 + 1) : Option Int32).bind fun i39 =>
  some (.inl (touching20, i39)))
  else
  (some (.inr touching7))
def Land_touchCount (t : Nat) (how1 : Int32) (m2 : MI) : Option (Int32) :=
  (lp (Land_touchCount_s1 m2 t how1) FUEL (0, 0)).bind fun touching9 =>
  some touching9
def N_count (what1 : Int32) (m2 : MI) : Option (Int32) :=
  if what1 = 0 then
  (some (m2.1 1 0))
  else
  (if what1 = 1 then
  (some (m2.1 1 1))
  else
  (if what1 = 2 then
  ((Land_allAcres 1 m2).bind fun r8 =>
  some r8)
  else
  (if what1 = 3 then
  ((Land_ownedCount 1 m2).bind fun r13 =>
  some r13)
  else
  (if what1 = 4 then
  ((Land_touchCount 1 1 m2).bind fun r18 =>
  (Land_touchCount 1 2 m2).bind fun r21 =>
  some (r18 + r21))
  else
  (if what1 = 5 then
  ((Land_touchCount 1 2 m2).bind fun r26 =>
  some r26)
  else
  (if what1 = 6 then
  ((Land_touchCount 1 3 m2).bind fun r31 =>
  some r31)
  else
  (if what1 = 7 then
  ((Land_allCoins 1 m2).bind fun r36 =>
  some r36)
  else
  (some (-1)))))))))
def Move_become (t : Nat) (k1 : Int32) (wfog2 : Int32) (m3 : MI) : Option (MI) :=
  (stF m3 t 0 k1).bind fun m4 =>
  (stF m4 t 1 (rm32 (wfog2 / 1000) 10)).bind fun m7 =>
  (stF m7 t 2 (rm32 (wfog2 / 100) 10)).bind fun m10 =>
  (stF m10 t 3 (rm32 (wfog2 / 10) 10)).bind fun m13 =>
  (stF m13 t 4 (rm32 wfog2 10)).bind fun m16 =>
  some m16
def N_keep (d1 : Int32) (what2 : Int32) (k3 : Int32) (wfog4 : Int32) (m5 : MI) : Option (Int32 × MI) :=
  onN (N_shelfAt d1)
  (some ((-1), m5))
  (fun s7 => (if what2 < 0 then (some true) else (some (decide (1 < what2)))).bind fun c11 =>
  if c11 then
  (some ((-1), m5))
  else
  (if what2 = 0 then
  ((stF m5 s7 0 0).bind fun m19 =>
  some (0, m19))
  else
  ((if k3 < 0 then (some true) else (if 7 < k3 then (some true) else (if wfog4 < 0 then (some true) else (some (decide (9999 < wfog4)))))).bind fun c23 =>
  if c23 then
  (some ((-1), m5))
  else
  ((stF m5 s7 0 1).bind fun m30 =>
  (Move_become (s7 + 1) k3 wfog4 m30).bind fun m33 =>
  some (0, m33)))))
def Shelf_becomeRow (t : Nat) (newSort1 : Int32) (newSize2 : Int32) (m3 : MI) : Option (MI) :=
  (stF m3 t 0 2).bind fun m4 =>
  (stF m4 t 1 newSort1).bind fun m7 =>
  (stF m7 t 2 newSize2).bind fun m10 =>
  (flA 100 m10 (t + 2) 0).bind fun m13 =>
  some m13
def N_row (d1 : Int32) (sort2 : Int32) (n3 : Int32) (m4 : MI) : Option (Int32 × MI) :=
  onN (N_shelfAt d1)
  (some ((-1), m4))
  (fun s6 => (if sort2 < 0 then (some true) else (if 2 < sort2 then (some true) else (some (decide (100 < n3))))).bind fun c10 =>
  if c10 then
  (some ((-1), m4))
  else
  (if n3 < 0 then
  (some ((-14), m4))
  else
  ((Shelf_becomeRow s6 sort2 n3 m4).bind fun m19 =>
  some (0, m19))))
def Shelf_isPlace (t : Nat) (i1 : Int32) (m2 : MI) : Option (Bool) :=
  (if 0 ≤ i1 then (if i1 < (m2.1 t 2) then (some (decide (i1 < 100))) else (some false)) else (some false)).bind fun c3 =>
  some c3
def Shelf_set (t : Nat) (i1 : Int32) (v2 : Int32) (m3 : MI) : Option (Bool × MI) :=
  (Shelf_isPlace t i1 m3).bind fun b4 =>
  if b4 then
  ((if (m3.1 t 1) = 0 then
  (some (v2.toInt8.toInt32))
  else
  ((if (m3.1 t 1) = 1 then
  (some (v2.toInt16.toInt32))
  else
  (some v2) : Option (Int32)).bind fun x14 =>
  some x14) : Option (Int32)).bind fun x8 =>
  (stA 100 m3 (t + 2) i1 x8).bind fun m20 =>
  some (true, m20))
  else
  (some (false, m3))
def N_put (d1 : Int32) (i2 : Int32) (v3 : Int32) (m4 : MI) : Option (Int32 × MI) :=
  onN (N_shelfAt d1)
  (some ((-1), m4))
  (fun s6 => (Shelf_refusalUnless s6 2 m4).bind fun r10 =>
  if r10 ≠ 0 then
  (some (r10, m4))
  else
  (((Shelf_set s6 i2 v3 m4).bind fun (b20, m21) =>
  if b20 then
  (some (0, m21))
  else
  (some ((-13), m21)) : Option (Int32 × MI)).bind fun (x15, m16) =>
  some (x15, m16)))
def Shelf_hasPlaces (t : Nat) (from1 : Int32) (n2 : Int32) (m3 : MI) : Option (Bool) :=
  (if 0 ≤ from1 then (if 0 ≤ n2 then (if from1 ≤ (m3.1 t 2) then (if n2 ≤ ((m3.1 t 2) - from1) then (some (decide ((m3.1 t 2) ≤ 100))) else (some false)) else (some false)) else (some false)) else (some false)).bind fun c4 =>
  some c4
def N_copy (d1 : Int32) (i2 : Int32) (e3 : Int32) (j4 : Int32) (n5 : Int32) (m6 : MI) : Option (Int32 × MI) :=
  onN (N_shelfAt d1)
  (onN (N_shelfAt e3)
  (some ((-1), m6))
  (fun s11 => some ((-1), m6)))
  (fun s8 => onN (N_shelfAt e3)
  (some ((-1), m6))
  (fun s18 => (if (m6.1 s8 0) = 0 then (some true) else (some (decide ((m6.1 s18 0) = 0)))).bind fun c22 =>
  if c22 then
  (some ((-11), m6))
  else
  ((if (m6.1 s8 0) ≠ 2 then (some true) else (if (m6.1 s18 0) ≠ 2 then (some true) else (some (decide ((m6.1 s8 1) ≠ (m6.1 s18 1)))))).bind fun c29 =>
  if c29 then
  (some ((-12), m6))
  else
  (((Shelf_hasPlaces s8 i2 n5 m6).bind fun b46 =>
  if b46 then ((Shelf_hasPlaces s18 j4 n5 m6).bind fun b50 =>
  some (!b50)) else (some true)).bind fun c36 =>
  if c36 then
  (some ((-13), m6))
  else
  ((acp 100 100 m6 (s8 + 2) i2 (s18 + 2) j4 n5).bind fun m43 =>
  some (n5, m43))))))
def Move_feeAsked (t : Nat) (m1 : MI) : Option (Int32) :=
  (some (2 + (m1.1 t 4)) : Option Int32).bind fun ofBuy2 =>
  (some (m1.1 t 0) : Option Int32).bind fun w5 =>
  if w5 = 1 then
  (some ofBuy2)
  else
  (if w5 = 2 then
  (some 6)
  else
  (if w5 = 3 then
  (some (6 + 1))
  else
  (if w5 = 4 then
  (some (2 * ofBuy2))
  else
  (if w5 = 5 then
  (some 9)
  else
  (if w5 = 6 then
  (some 0)
  else
  (if w5 = 7 then
  (some (ofBuy2 - (m1.1 t 4)))
  else
  (some 2)))))))
def N_fee (d1 : Int32) (m2 : MI) : Option (Int32) :=
  onN (N_shelfAt d1)
  (some (-1))
  (fun s4 => (Shelf_refusalUnless s4 1 m2).bind fun r8 =>
  (if r8 ≠ 0 then
  (some r8)
  else
  ((Move_feeAsked (s4 + 1) m2).bind fun r17 =>
  some r17) : Option (Int32)).bind fun x11 =>
  some x11)
def Move_failureNumber (t : Nat) (m1 : MI) : Option (Int32) :=
  if (m1.1 t 0) = 7 then
  ((Move_feeAsked t m1).bind fun r3 =>
  some (200 + r3))
  else
  ((if (m1.1 t 0) = 3 then
  (some ((m1.1 t 4) + 100))
  else
  (some (m1.1 t 4)) : Option (Int32)).bind fun x7 =>
  some x7)
def M_thrown (m1 : MI) : Option (Int32) :=
  some (m1.1 62 10)
def M_in (v1 : Int64) (low2 : Int64) (high3 : Int64) : Option (Bool) :=
  (if low2 ≤ v1 then (some (decide (v1 ≤ high3))) else (some false)).bind fun c4 =>
  some c4
def M_isField (f1 : Int32) (m2 : MI) : Option (Bool) :=
  (M_in f1.toInt64 0 ((((m2.1 62 0) - 1)).toInt64)).bind fun b3 =>
  some b3
def M_isPerson (p1 : Int32) (m2 : MI) : Option (Bool) :=
  (M_in p1.toInt64 0 ((((m2.1 62 5) - 1)).toInt64)).bind fun b3 =>
  some b3
def M_bars (a1 : Int32) (b2 : Int32) (m3 : MI) : Option (Bool) :=
  (ldA 36 m3 64 ((6 * a1) + b2)).bind fun x4 =>
  (if x4 = 1 then (some true) else (if x4 = 3 then (some (decide ((m3.1 62 3) = 1))) else (some false))).bind fun c7 =>
  some c7
def M_areKin (p1 : Int32) (q2 : Int32) (m3 : MI) : Option (Bool) :=
  (if (m3.1 62 4) = 1 then ((ldA 3 m3 66 p1).bind fun x11 =>
  if x11 = q2 then (some true) else ((ldA 3 m3 66 q2).bind fun x16 =>
  some (decide (x16 = p1)))) else (some false)).bind fun c4 =>
  some c4
def M_takeNow_s1 : Int32 × MI → Option ((Int32 × MI) ⊕ (MI)) := fun (f6, m7) =>
  if f6 < 6 then
  ((if f6 < (m7.1 62 0) then
  ((ldA 6 m7 68 f6).bind fun x15 =>
  some x15)
  else
  (some 0) : Option (Int32)).bind fun x10 =>
  (stA 6 m7 69 f6 x10).bind fun m19 =>
  (some (f6 + 1) : Option Int32).bind fun i22 =>
  some (.inl (i22, m19)))
  else
  (some (.inr m7))
def M_takeNow (m1 : MI) : Option (MI) :=
  (lp (M_takeNow_s1) FUEL (0, m1)).bind fun m8 =>
  some m8
def M_areApart (a1 : Int32) (b2 : Int32) (m3 : MI) : Option (Bool) :=
  ((ldA 6 m3 69 a1).bind fun x34 =>
  if x34 = 0 then (some true) else ((ldA 6 m3 69 b2).bind fun x39 =>
  if x39 = 0 then (some true) else ((M_bars a1 b2 m3).bind fun b44 =>
  some (!b44)))).bind fun c4 =>
  if c4 then
  (some true)
  else
  (((ldA 6 m3 69 a1).bind fun x17 =>
  (ldA 6 m3 69 b2).bind fun x20 =>
  if x17 ≠ x20 then ((ldA 6 m3 69 a1).bind fun x24 =>
  (ldA 6 m3 69 b2).bind fun x27 =>
  (M_areKin (x24 - 1) (x27 - 1) m3).bind fun b30 =>
  some (!b30)) else (some false)).bind fun c11 =>
  some c11)
def M_isFine_s2 (a7 : Int32) (m1 : MI) : Bool × Int32 → Option ((Bool × Int32) ⊕ (Bool)) := fun (fine14, b15) =>
  if b15 < a7 then
  ((if fine14 then ((M_areApart a7 b15 m1).bind fun b25 =>
  some (b25)) else (some false)).bind fun c18 =>
  (some (b15 + 1) : Option Int32).bind fun i29 =>
  some (.inl (c18, i29)))
  else
  (some (.inr fine14))
def M_isFine_s1 (m1 : MI) : Bool × Int32 → Option ((Bool × Int32) ⊕ (Bool)) := fun (fine6, a7) =>
  if a7 < (m1.1 62 0) then
  ((lp (M_isFine_s2 a7 m1) FUEL (fine6, 0)).bind fun fine16 =>
  (some (a7 + 1) : Option Int32).bind fun i34 =>
  some (.inl (fine16, i34)))
  else
  (some (.inr fine6))
def M_isFine (m1 : MI) : Option (Bool) :=
  (lp (M_isFine_s1 m1) FUEL (true, 0)).bind fun fine8 =>
  some fine8
def M_worthOf_s1 (m2 : MI) (person1 : Int32) : Int32 × Int32 → Option ((Int32 × Int32) ⊕ (Int32)) := fun (sum7, f8) =>
  if f8 < (m2.1 62 0) then
  (((ldA 6 m2 69 f8).bind fun x15 =>
  if x15 = (person1 + 1) then
  ((ldA 18 m2 67 ((6 * person1) + f8)).bind fun x19 =>
  some x19)
  else
  (some 0) : Option (Int32)).bind fun x11 =>
  (some (sum7 + x11) : Option Int32).bind fun sum23 =>
  (some (f8 + 1) : Option Int32).bind fun i26 =>
  some (.inl (sum23, i26)))
  else
  (some (.inr sum7))
def M_worthOf (person1 : Int32) (m2 : MI) : Option (Int32) :=
  (lp (M_worthOf_s1 m2 person1) FUEL (0, 0)).bind fun sum9 =>
  some sum9
def M_worthOfAll_s1 (m1 : MI) : Int32 × Int32 → Option ((Int32 × Int32) ⊕ (Int32)) := fun (sum6, p7) =>
  if p7 < (m1.1 62 5) then
  ((M_worthOf p7 m1).bind fun r10 =>
  (some (sum6 + r10) : Option Int32).bind fun sum13 =>
  (some (p7 + 1) : Option Int32).bind fun i16 =>
  some (.inl (sum13, i16)))
  else
  (some (.inr sum6))
def M_worthOfAll (m1 : MI) : Option (Int32) :=
  (lp (M_worthOfAll_s1 m1) FUEL (0, 0)).bind fun sum8 =>
  some sum8
def M_here (m1 : MI) : Option (Int32) :=
  (if (m1.1 62 13) ≤ (m1.1 62 14) then
  (some (-1))
  else
  ((ldL 800 m1 90 ((m1.1 62 12) + (m1.1 62 14))).bind fun x8 =>
  some ((x8.toInt32) &&& 255)) : Option (Int32)).bind fun x2 =>
  some x2
def M_readDigit (m1 : MI) : Option (Int32 × MI) :=
  ((ldZ m1 62 15).bind fun b8 =>
  if b8 then (some true) else ((M_here m1).bind fun r13 =>
  (M_in r13.toInt64 48 57).bind fun b16 =>
  some (!b16))).bind fun c2 =>
  (stZ m1 62 15 c2).bind fun m19 =>
  (ldZ m19 62 15).bind fun b22 =>
  if b22 then
  (some (0, m19))
  else
  ((stF m19 62 14 ((m19.1 62 14) + 1)).bind fun m27 =>
  (ldL 800 m27 90 (((m27.1 62 12) + (m27.1 62 14)) - 1)).bind fun x30 =>
  some (((x30.toInt32) - 48), m27))
def M_readNumber_s1 (digits1 : Int32) : Int32 × Int32 × MI → Option ((Int32 × Int32 × MI) ⊕ (Int32 × MI)) := fun (v11, n12, m13) =>
  (if n12 < digits1 then (if 0 < v11 then ((ldZ m13 62 15).bind fun b37 =>
  if b37 then (some false) else ((M_here m13).bind fun r42 =>
  (M_in r42.toInt64 48 57).bind fun b45 =>
  some (b45))) else (some false)) else (some false)).bind fun c16 =>
  if c16 then
  ((M_here m13).bind fun r21 =>
  (some (((10 * v11) + r21) - 48) : Option Int32).bind fun v24 =>
  (stF m13 62 14 ((m13.1 62 14) + 1)).bind fun m27 =>
  (some (n12 + 1) : Option Int32).bind fun i30 =>
  some (.inl (v24, i30, m27)))
  else
  (some (.inr (v11, m13)))
def M_readNumber (digits1 : Int32) (m2 : MI) : Option (Int32 × MI) :=
  (M_readDigit m2).bind fun (r3, m4) =>
  (lp (M_readNumber_s1 digits1) FUEL (r3, 1, m4)).bind fun (v14, m15) =>
  some (v14, m15)
def M_take (c1 : Int32) (m2 : MI) : Option (MI) :=
  ((ldZ m2 62 15).bind fun b9 =>
  if b9 then (some true) else ((M_here m2).bind fun r14 =>
  some (decide (r14 ≠ c1)))).bind fun c3 =>
  (stZ m2 62 15 c3).bind fun m17 =>
  ((ldZ m17 62 15).bind fun b24 =>
  if b24 then
  (some 0)
  else
  (some 1) : Option (Int32)).bind fun x20 =>
  (stF m17 62 14 ((m17.1 62 14) + x20)).bind fun m29 =>
  some m29
def M_readRest (k1 : Int32) (c2 : Int32) (m3 : MI) : Option (MI) :=
  if c2 = 112 then
  ((M_readNumber 3 m3).bind fun (r5, m6) =>
  (stA 51 m6 72 k1 r5).bind fun m9 =>
  (stA 51 m9 73 k1 (-1)).bind fun m12 =>
  (((ldZ m12 62 15).bind fun b37 =>
  if b37 then (some false) else ((M_here m12).bind fun r42 =>
  some (decide (r42 = 107)))).bind fun c20 =>
  if c20 then
  ((stF m12 62 14 ((m12.1 62 14) + 1)).bind fun m25 =>
  (M_readDigit m25).bind fun (r28, m29) =>
  (stA 51 m29 73 k1 r28).bind fun m32 =>
  some m32)
  else
  (some m12) : Option (MI)).bind fun m18 =>
  some m18)
  else
  ((M_readDigit m3).bind fun (r47, m48) =>
  (stA 51 m48 72 k1 r47).bind fun m51 =>
  (if c2 = 102 then
  (some (0, m51))
  else
  ((M_readDigit m51).bind fun (r62, m63) =>
  some (r62, m63)) : Option (Int32 × MI)).bind fun (x54, m55) =>
  (stA 51 m55 73 k1 x54).bind fun m67 =>
  (stA 51 m67 74 k1 0).bind fun m70 =>
  ((if c2 = 104 then ((ldZ m70 62 15).bind fun b92 =>
  if b92 then (some false) else ((M_here m70).bind fun r97 =>
  some (decide (r97 = 108)))) else (some false)).bind fun c78 =>
  if c78 then
  ((stF m70 62 14 ((m70.1 62 14) + 1)).bind fun m83 =>
  (stA 51 m83 74 k1 1).bind fun m86 =>
  some m86)
  else
  (some m70) : Option (MI)).bind fun m76 =>
  (if c2 = 119 then
  ((M_take 32 m76).bind fun m108 =>
  (M_readNumber 2 m108).bind fun (r111, m112) =>
  (stA 51 m112 74 k1 r111).bind fun m115 =>
  some m115)
  else
  (some m76) : Option (MI)).bind fun m105 =>
  some m105)
def M_readStatement (m1 : MI) : Option (MI) :=
  (some (m1.1 62 16) : Option Int32).bind fun k2 =>
  (M_here m1).bind fun r5 =>
  (stA 51 m1 70 k2 (m1.1 62 14)).bind fun m8 =>
  (stA 51 m8 71 k2 r5).bind fun m11 =>
  ((ldZ m11 62 15).bind fun b20 =>
  if b20 then (some true) else (if r5 ≠ 102 then (if r5 ≠ 104 then (if r5 ≠ 99 then (if r5 ≠ 112 then (if r5 ≠ 119 then (if r5 ≠ 111 then (some (decide (r5 ≠ 120))) else (some false)) else (some false)) else (some false)) else (some false)) else (some false)) else (some false))).bind fun c14 =>
  (stZ m11 62 15 c14).bind fun m37 =>
  ((ldZ m37 62 15).bind fun b44 =>
  if b44 then
  (some 0)
  else
  (some 1) : Option (Int32)).bind fun x40 =>
  (stF m37 62 14 ((m37.1 62 14) + x40)).bind fun m49 =>
  ((ldZ m49 62 15).bind fun b57 =>
  if b57 then
  (some m49)
  else
  ((M_readRest k2 r5 m49).bind fun m62 =>
  some m62) : Option (MI)).bind fun m55 =>
  (M_take 59 m55).bind fun m66 =>
  (stF m66 62 16 ((m66.1 62 16) + 1)).bind fun m69 =>
  some m69
def M_fieldComes_s1 : Int32 × MI → Option ((Int32 × MI) ⊕ (MI)) := fun (k20, m21) =>
  if k20 < 6 then
  ((stA 36 m21 64 ((6 * (m21.1 62 0)) + k20) 0).bind fun m24 =>
  (stA 36 m24 64 ((6 * k20) + (m24.1 62 0)) 0).bind fun m27 =>
  (some (k20 + 1) : Option Int32).bind fun i30 =>
  some (.inl (i30, m27)))
  else
  (some (.inr m21))
def M_fieldComes_s2 (a1 : Int32) : Int32 × MI → Option ((Int32 × MI) ⊕ (MI)) := fun (p39, m40) =>
  if p39 < 3 then
  ((stA 18 m40 67 ((6 * p39) + (m40.1 62 0)) (10 * a1)).bind fun m43 =>
  (some (p39 + 1) : Option Int32).bind fun i46 =>
  some (.inl (i46, m43)))
  else
  (some (.inr m40))
def M_fieldComes (a1 : Int32) (m2 : MI) : Option (Bool × MI) :=
  (if a1 = 0 then (some true) else (some (decide ((m2.1 62 0) = 6)))).bind fun c3 =>
  if c3 then
  (some (false, m2))
  else
  ((stA 6 m2 63 (m2.1 62 0) a1).bind fun m10 =>
  (stA 6 m10 68 (m10.1 62 0) 0).bind fun m13 =>
  (lp (M_fieldComes_s1) FUEL (0, m13)).bind fun m22 =>
  (lp (M_fieldComes_s2 a1) FUEL (0, m22)).bind fun m41 =>
  (stF m41 62 0 ((m41.1 62 0) + 1)).bind fun m51 =>
  some (true, m51))
def M_personComes_s1 : Int32 × MI → Option ((Int32 × MI) ⊕ (MI)) := fun (f21, m22) =>
  if f21 < (m22.1 62 0) then
  ((ldA 6 m22 63 f21).bind fun x25 =>
  (stA 18 m22 67 ((6 * (m22.1 62 5)) + f21) (10 * x25)).bind fun m28 =>
  (some (f21 + 1) : Option Int32).bind fun i31 =>
  some (.inl (i31, m28)))
  else
  (some (.inr m22))
def M_personComes (money1 : Int32) (kin2 : Int32) (m3 : MI) : Option (Bool × MI) :=
  (if (m3.1 62 5) ≤ kin2 then (some true) else (some (decide ((m3.1 62 5) = 3)))).bind fun c4 =>
  if c4 then
  (some (false, m3))
  else
  ((stA 3 m3 65 (m3.1 62 5) money1).bind fun m11 =>
  (stA 3 m11 66 (m11.1 62 5) kin2).bind fun m14 =>
  (lp (M_personComes_s1) FUEL (0, m14)).bind fun m23 =>
  (stF m23 62 5 ((m23.1 62 5) + 1)).bind fun m36 =>
  some (true, m36))
def M_comes (k1 : Int32) (m2 : MI) : Option (Bool × MI) :=
  (ldA 51 m2 71 k1).bind fun x3 =>
  (ldA 51 m2 72 k1).bind fun x6 =>
  (ldA 51 m2 73 k1).bind fun x9 =>
  if x3 = 102 then
  ((M_fieldComes x6 m2).bind fun (b13, m14) =>
  some (b13, m14))
  else
  (if x3 = 112 then
  ((M_personComes x6 x9 m2).bind fun (b19, m20) =>
  some (b19, m20))
  else
  (if x3 = 120 then
  ((stF m2 62 3 x6).bind fun m25 =>
  (stF m25 62 4 x9).bind fun m28 =>
  (if x6 < 2 then (some (decide (x9 < 2))) else (some false)).bind fun c31 =>
  some (c31, m28))
  else
  ((if x3 = 104 then (some true) else (some (decide (x3 = 99)))).bind fun c40 =>
  if c40 then
  (((M_isField x6 m2).bind fun b67 =>
  if b67 then ((M_isField x9 m2).bind fun b71 =>
  if b71 then (if x6 = x9 then (some true) else ((ldA 36 m2 64 ((6 * x6) + x9)).bind fun x77 =>
  some (decide (x77 ≠ 0)))) else (some true)) else (some true)).bind fun c45 =>
  if c45 then
  (some (false, m2))
  else
  ((if x3 = 99 then
  (some 3)
  else
  ((ldA 51 m2 74 k1).bind fun x58 =>
  some (1 + x58)) : Option (Int32)).bind fun x52 =>
  (stA 36 m2 64 ((6 * x6) + x9) x52).bind fun m61 =>
  (stA 36 m61 64 ((6 * x9) + x6) x52).bind fun m64 =>
  some (true, m64)))
  else
  (((M_isPerson x6 m2).bind fun b108 =>
  if b108 then ((M_isField x9 m2).bind fun b112 =>
  some (!b112)) else (some true)).bind fun c84 =>
  if c84 then
  (some (false, m2))
  else
  ((if x3 = 119 then
  ((ldA 51 m2 74 k1).bind fun x97 =>
  (stA 18 m2 67 ((6 * x6) + x9) x97).bind fun m100 =>
  some m100)
  else
  ((stA 6 m2 68 x9 (x6 + 1)).bind fun m104 =>
  some m104) : Option (MI)).bind fun m94 =>
  some (true, m94))))))
def M_carry (to1 : Nat) (v2 : Int32) (m3 : MI) : Option (Int32 × MI) :=
  ((ldZ m3 62 41).bind fun b9 =>
  if b9 then
  ((stA 80 m3 to1 (m3.1 62 40) v2).bind fun m13 =>
  some m13)
  else
  (some m3) : Option (MI)).bind fun m7 =>
  (stF m7 62 40 ((m7.1 62 40) + 1)).bind fun m18 =>
  (ldA 80 m18 to1 ((m18.1 62 40) - 1)).bind fun x21 =>
  some (x21, m18)
def M_carryTo_s1 (to1 : Nat) : Int32 × MI → Option ((Int32 × MI) ⊕ (MI)) := fun (k42, m43) =>
  if k42 < 6 then
  ((ldA 6 m43 63 k42).bind fun x46 =>
  (M_carry to1 x46 m43).bind fun (r49, m50) =>
  (stA 6 m50 63 k42 r49).bind fun m53 =>
  (ldA 6 m53 68 k42).bind fun x56 =>
  (M_carry to1 x56 m53).bind fun (r59, m60) =>
  (stA 6 m60 68 k42 r59).bind fun m63 =>
  (some (k42 + 1) : Option Int32).bind fun i66 =>
  some (.inl (i66, m63)))
  else
  (some (.inr m43))
def M_carryTo_s2 (to1 : Nat) : Int32 × MI → Option ((Int32 × MI) ⊕ (MI)) := fun (k75, m76) =>
  if k75 < 36 then
  ((ldA 36 m76 64 k75).bind fun x79 =>
  (M_carry to1 x79 m76).bind fun (r82, m83) =>
  (stA 36 m83 64 k75 r82).bind fun m86 =>
  (some (k75 + 1) : Option Int32).bind fun i89 =>
  some (.inl (i89, m86)))
  else
  (some (.inr m76))
def M_carryTo_s3 (to1 : Nat) : Int32 × MI → Option ((Int32 × MI) ⊕ (MI)) := fun (k98, m99) =>
  if k98 < 3 then
  ((ldA 3 m99 65 k98).bind fun x102 =>
  (M_carry to1 x102 m99).bind fun (r105, m106) =>
  (stA 3 m106 65 k98 r105).bind fun m109 =>
  (ldA 3 m109 66 k98).bind fun x112 =>
  (M_carry to1 x112 m109).bind fun (r115, m116) =>
  (stA 3 m116 66 k98 r115).bind fun m119 =>
  (some (k98 + 1) : Option Int32).bind fun i122 =>
  some (.inl (i122, m119)))
  else
  (some (.inr m99))
def M_carryTo_s4 (to1 : Nat) : Int32 × MI → Option ((Int32 × MI) ⊕ (MI)) := fun (k131, m132) =>
  if k131 < 18 then
  ((ldA 18 m132 67 k131).bind fun x135 =>
  (M_carry to1 x135 m132).bind fun (r138, m139) =>
  (stA 18 m139 67 k131 r138).bind fun m142 =>
  (some (k131 + 1) : Option Int32).bind fun i145 =>
  some (.inl (i145, m142)))
  else
  (some (.inr m132))
def M_carryTo (to1 : Nat) (takes2 : Bool) (m3 : MI) : Option (MI) :=
  (stF m3 62 40 0).bind fun m4 =>
  (stZ m4 62 41 takes2).bind fun m7 =>
  (M_carry to1 (m7.1 62 0) m7).bind fun (r10, m11) =>
  (stF m11 62 0 r10).bind fun m14 =>
  (M_carry to1 (m14.1 62 3) m14).bind fun (r17, m18) =>
  (stF m18 62 3 r17).bind fun m21 =>
  (M_carry to1 (m21.1 62 4) m21).bind fun (r24, m25) =>
  (stF m25 62 4 r24).bind fun m28 =>
  (M_carry to1 (m28.1 62 5) m28).bind fun (r31, m32) =>
  (stF m32 62 5 r31).bind fun m35 =>
  (lp (M_carryTo_s1 to1) FUEL (0, m35)).bind fun m44 =>
  (lp (M_carryTo_s2 to1) FUEL (0, m44)).bind fun m77 =>
  (lp (M_carryTo_s3 to1) FUEL (0, m77)).bind fun m100 =>
  (lp (M_carryTo_s4 to1) FUEL (0, m100)).bind fun m133 =>
  some m133
def M_wrongRow (d1 : Int32) (m2 : MI) : Option (Int32) :=
  ((M_in d1.toInt64 0 7).bind fun b7 =>
  if b7 then
  (((ldA 8 m2 85 d1).bind fun x15 =>
  if x15 = 0 then
  (some (-11))
  else
  (((ldA 8 m2 85 d1).bind fun x24 =>
  if x24 ≠ 2 then
  (some (-12))
  else
  (some 0) : Option (Int32)).bind fun x20 =>
  some x20) : Option (Int32)).bind fun x11 =>
  some x11)
  else
  (some (-1)) : Option (Int32)).bind fun x3 =>
  some x3
def M_wrongBytes (d1 : Int32) (m2 : MI) : Option (Int32) :=
  ((M_wrongRow d1 m2).bind fun r7 =>
  if r7 < 0 then
  ((M_wrongRow d1 m2).bind fun r11 =>
  some r11)
  else
  (((ldA 8 m2 88 d1).bind fun x19 =>
  if x19 ≠ 0 then
  (some (-12))
  else
  (some 0) : Option (Int32)).bind fun x15 =>
  some x15) : Option (Int32)).bind fun x3 =>
  some x3
def M_land_s1 : MI → Option ((MI) ⊕ (MI)) := fun m33 =>
  ((ldZ m33 62 15).bind fun b45 =>
  if b45 then (some false) else (if (m33.1 62 16) = 0 then (some true) else (some (decide ((m33.1 62 14) < (m33.1 62 13)))))).bind fun c35 =>
  if c35 then
  ((M_readStatement m33).bind fun m40 =>
  some (.inl m40))
  else
  (some (.inr m33))
def M_land_s2 : Int32 × MI → Option ((Int32 × MI) ⊕ ((MI) ⊕ (Int32 × MI))) := fun (k65, m66) =>
  if k65 < (m66.1 62 16) then
  ((M_comes k65 m66).bind fun (b69, m70) =>
  if b69 then
  ((some (k65 + 1) : Option Int32).bind fun i74 =>
  some (.inl (i74, m70)))
  else
  ((M_carryTo 84 false m70).bind fun m78 =>
  (ldA 51 m78 70 k65).bind fun x81 =>
  some (.inr (.inr (((-2000) - x81), m78)))))
  else
  (some (.inr (.inl m66)))
def M_land (d1 : Int32) (m2 : MI) : Option (Int32 × MI) :=
  (stF m2 62 10 0).bind fun m3 =>
  (M_wrongBytes d1 m3).bind fun r6 =>
  if r6 < 0 then
  (some (r6, m3))
  else
  ((stF m3 62 12 (100 * d1)).bind fun m11 =>
  (ldA 8 m11 89 d1).bind fun x14 =>
  (stF m11 62 13 x14).bind fun m17 =>
  (stF m17 62 14 0).bind fun m20 =>
  (stZ m20 62 15 false).bind fun m23 =>
  (stF m23 62 16 0).bind fun m26 =>
  (lp (M_land_s1) FUEL m26).bind fun m34 =>
  (ldZ m34 62 15).bind fun b53 =>
  if b53 then
  (some (((-1000) - (m34.1 62 14)), m34))
  else
  ((M_carryTo 84 true m34).bind fun m58 =>
  (lp (M_land_s2) FUEL (0, m58)).bind fun o61 => Sum.elim (fun m67 => some ((m67.1 62 16), m67)) (fun r86 => some r86) o61))
def M_barring_s1 (m2 : MI) (f1 : Int32) : Int32 × Int32 → Option ((Int32 × Int32) ⊕ (Int32)) := fun (bits7, k8) =>
  if k8 < (m2.1 62 0) then
  (((if k8 ≠ f1 then ((M_bars f1 k8 m2).bind fun b23 =>
  some (b23)) else (some false)).bind fun c15 =>
  if c15 then
  (some (bits7 ||| (1 <<< (k8 &&& 31))))
  else
  (some bits7) : Option (Int32)).bind fun x11 =>
  (some (k8 + 1) : Option Int32).bind fun i27 =>
  some (.inl (x11, i27)))
  else
  (some (.inr bits7))
def M_barring (f1 : Int32) (m2 : MI) : Option (Int32) :=
  (lp (M_barring_s1 m2 f1) FUEL (0, 0)).bind fun bits9 =>
  some bits9
def M_field (f1 : Int32) (what2 : Int32) (m3 : MI) : Option (Int32 × MI) :=
  (stF m3 62 10 0).bind fun m4 =>
  ((M_isField f1 m4).bind fun b44 =>
  if b44 then ((M_in what2.toInt64 0 2).bind fun b48 =>
  some (!b48)) else (some true)).bind fun c7 =>
  if c7 then
  (some ((-1), m4))
  else
  ((if what2 = 0 then
  ((ldA 6 m4 63 f1).bind fun x19 =>
  some x19)
  else
  ((if what2 = 2 then
  ((M_barring f1 m4).bind fun r28 =>
  some r28)
  else
  (((ldA 6 m4 68 f1).bind fun x36 =>
  if x36 = 0 then
  (some (-4))
  else
  ((ldA 6 m4 68 f1).bind fun x41 =>
  some (x41 - 1)) : Option (Int32)).bind fun x32 =>
  some x32) : Option (Int32)).bind fun x23 =>
  some x23) : Option (Int32)).bind fun x14 =>
  some (x14, m4))
def M_touch (a1 : Int32) (b2 : Int32) (m3 : MI) : Option (Int32 × MI) :=
  (stF m3 62 10 0).bind fun m4 =>
  (((M_isField a1 m4).bind fun b21 =>
  if b21 then ((M_isField b2 m4).bind fun b25 =>
  if b25 then (some (decide (a1 ≠ b2))) else (some false)) else (some false)).bind fun c11 =>
  if c11 then
  ((ldA 36 m4 64 ((6 * a1) + b2)).bind fun x16 =>
  some x16)
  else
  (some (-1)) : Option (Int32)).bind fun x7 =>
  some (x7, m4)
def M_ownedBy_s1 (m2 : MI) (p1 : Int32) : Int32 × Int32 → Option ((Int32 × Int32) ⊕ (Int32)) := fun (bits7, f8) =>
  if f8 < (m2.1 62 0) then
  (((ldA 6 m2 68 f8).bind fun x15 =>
  if x15 = (p1 + 1) then
  (some (bits7 ||| (1 <<< (f8 &&& 31))))
  else
  (some bits7) : Option (Int32)).bind fun x11 =>
  (some (f8 + 1) : Option Int32).bind fun i20 =>
  some (.inl (x11, i20)))
  else
  (some (.inr bits7))
def M_ownedBy (p1 : Int32) (m2 : MI) : Option (Int32) :=
  (lp (M_ownedBy_s1 m2 p1) FUEL (0, 0)).bind fun bits9 =>
  some bits9
def M_person (p1 : Int32) (what2 : Int32) (m3 : MI) : Option (Int32 × MI) :=
  (stF m3 62 10 0).bind fun m4 =>
  ((M_isPerson p1 m4).bind fun b56 =>
  if b56 then ((M_in what2.toInt64 0 3).bind fun b60 =>
  some (!b60)) else (some true)).bind fun c7 =>
  if c7 then
  (some ((-1), m4))
  else
  ((M_takeNow m4).bind fun m14 =>
  (if what2 = 0 then
  ((ldA 3 m14 65 p1).bind fun x22 =>
  some x22)
  else
  ((if what2 = 1 then
  (((ldA 3 m14 66 p1).bind fun x35 =>
  if x35 < 0 then
  (some (-4))
  else
  ((ldA 3 m14 66 p1).bind fun x40 =>
  some x40) : Option (Int32)).bind fun x31 =>
  some x31)
  else
  ((if what2 = 2 then
  ((M_ownedBy p1 m14).bind fun r49 =>
  some r49)
  else
  ((M_worthOf p1 m14).bind fun r53 =>
  some r53) : Option (Int32)).bind fun x44 =>
  some x44) : Option (Int32)).bind fun x26 =>
  some x26) : Option (Int32)).bind fun x17 =>
  some (x17, m14))
def M_worth (p1 : Int32) (f2 : Int32) (m3 : MI) : Option (Int32 × MI) :=
  (stF m3 62 10 0).bind fun m4 =>
  (((M_isPerson p1 m4).bind fun b21 =>
  if b21 then ((M_isField f2 m4).bind fun b25 =>
  some (b25)) else (some false)).bind fun c11 =>
  if c11 then
  ((ldA 18 m4 67 ((6 * p1) + f2)).bind fun x16 =>
  some x16)
  else
  (some (-1)) : Option (Int32)).bind fun x7 =>
  some (x7, m4)
def M_law (what1 : Int32) (x2 : Int32) (m3 : MI) : Option (Int32 × MI) :=
  (stF m3 62 10 0).bind fun m4 =>
  ((M_in what1.toInt64 0 1).bind fun b38 =>
  if b38 then ((M_in x2.toInt64 0 1).bind fun b42 =>
  some (!b42)) else (some true)).bind fun c7 =>
  if c7 then
  (some ((-1), m4))
  else
  ((if what1 = 0 then
  (some (m4.1 62 3))
  else
  (some (m4.1 62 4)) : Option (Int32)).bind fun x14 =>
  (if what1 = 0 then
  (some x2)
  else
  (some (m4.1 62 3)) : Option (Int32)).bind fun x20 =>
  (stF m4 62 3 x20).bind fun m26 =>
  (if what1 = 1 then
  (some x2)
  else
  (some (m26.1 62 4)) : Option (Int32)).bind fun x29 =>
  (stF m26 62 4 x29).bind fun m35 =>
  some (x14, m35))
def M_owns (p1 : Int32) (f2 : Int32) (m3 : MI) : Option (Int32 × MI) :=
  (stF m3 62 10 0).bind fun m4 =>
  (((M_isPerson p1 m4).bind fun b42 =>
  if b42 then (some false) else (some (decide (p1 ≠ 9)))).bind fun c32 =>
  if c32 then (some true) else ((M_isField f2 m4).bind fun b39 =>
  some (!b39))).bind fun c7 =>
  if c7 then
  (some ((-1), m4))
  else
  ((ldA 6 m4 68 f2).bind fun x14 =>
  (if p1 = 9 then
  (some 0)
  else
  (some (p1 + 1)) : Option (Int32)).bind fun x17 =>
  (stA 6 m4 68 f2 x17).bind fun m23 =>
  (if x14 = 0 then
  (some 9)
  else
  (some (x14 - 1)) : Option (Int32)).bind fun x26 =>
  some (x26, m23))
def M_lawful (m1 : MI) : Option (Int32 × MI) :=
  (stF m1 62 10 0).bind fun m2 =>
  (M_takeNow m2).bind fun m5 =>
  ((M_isFine m5).bind fun b12 =>
  if b12 then
  (some 1)
  else
  (some 0) : Option (Int32)).bind fun x8 =>
  some (x8, m5)
def M_firstUnlawful_s2 (m5 : MI) (a12 : Int32) : Int32 → Option ((Int32) ⊕ ((Unit) ⊕ (Int32 × MI))) := fun b21 =>
  if b21 < (m5.1 62 0) then
  ((M_areApart a12 b21 m5).bind fun b23 =>
  if b23 then
  ((some (b21 + 1) : Option Int32).bind fun i27 =>
  some (.inl i27))
  else
  (some (.inr (.inr (((10 * a12) + b21), m5)))))
  else
  (some (.inr (.inl ())))
def M_firstUnlawful_s1 (m5 : MI) : Int32 → Option ((Int32) ⊕ ((Unit) ⊕ (Int32 × MI))) := fun a12 =>
  if a12 < (m5.1 62 0) then
  ((some (a12 + 1) : Option Int32).bind fun b14 =>
  (lp (M_firstUnlawful_s2 m5 a12) FUEL b14).bind fun o17 => Sum.elim (fun _ => (some (a12 + 1) : Option Int32).bind fun i33 =>
  some (.inl i33)) (fun r36 => some (.inr (.inr r36))) o17)
  else
  (some (.inr (.inl ())))
def M_firstUnlawful (m1 : MI) : Option (Int32 × MI) :=
  (stF m1 62 10 0).bind fun m2 =>
  (M_takeNow m2).bind fun m5 =>
  (lp (M_firstUnlawful_s1 m5) FUEL 0).bind fun o8 => Sum.elim (fun _ => some ((-4), m5)) (fun r39 => some r39) o8
def M_wrongMove (d1 : Int32) (m2 : MI) : Option (Int32) :=
  ((M_in d1.toInt64 0 7).bind fun b7 =>
  if b7 then
  (((ldA 8 m2 85 d1).bind fun x15 =>
  if x15 = 0 then
  (some (-11))
  else
  (((ldA 8 m2 85 d1).bind fun x24 =>
  if x24 ≠ 1 then
  (some (-12))
  else
  (some 0) : Option (Int32)).bind fun x20 =>
  some x20) : Option (Int32)).bind fun x11 =>
  some x11)
  else
  (some (-1)) : Option (Int32)).bind fun x3 =>
  some x3
def M_openMove (d1 : Int32) (m2 : MI) : Option (Bool × MI) :=
  (ldA 8 m2 86 d1).bind fun x3 =>
  (stF m2 62 26 x3).bind fun m6 =>
  (ldA 8 m6 87 d1).bind fun x9 =>
  (stF m6 62 22 (x9 / 1000)).bind fun m12 =>
  (ldA 8 m12 87 d1).bind fun x15 =>
  (stF m12 62 23 (rm32 (x15 / 100) 10)).bind fun m18 =>
  (ldA 8 m18 87 d1).bind fun x21 =>
  (stF m18 62 24 (rm32 (x21 / 10) 10)).bind fun m24 =>
  (ldA 8 m24 87 d1).bind fun x27 =>
  (stF m24 62 25 (rm32 x27 10)).bind fun m30 =>
  (if (m30.1 62 26) = 2 then (some true) else (if (m30.1 62 26) = 3 then (some true) else (some (decide ((m30.1 62 26) = 5))))).bind fun c33 =>
  ((M_isPerson (m30.1 62 22) m30).bind fun b49 =>
  if b49 then ((M_isField (m30.1 62 23) m30).bind fun b53 =>
  if b53 then ((if c33 then ((M_isField (m30.1 62 24) m30).bind fun b70 =>
  some (b70)) else (some true)).bind fun c57 =>
  if c57 then (if (m30.1 62 26) ≠ 3 then (some true) else ((M_isField (m30.1 62 25) m30).bind fun b64 =>
  some (b64))) else (some false)) else (some false)) else (some false)).bind fun c43 =>
  some (c43, m30)
def M_isAsTold (m1 : MI) : Option (Bool) :=
  (if (m1.1 62 26) = 1 then (some true) else (some (decide ((m1.1 62 26) = 4)))).bind fun c2 =>
  if c2 then
  (((ldA 6 m1 68 (m1.1 62 23)).bind fun x13 =>
  some (decide (x13 ≠ ((m1.1 62 22) + 1)))).bind fun c7 =>
  some c7)
  else
  (if (m1.1 62 26) = 2 then
  ((some (decide ((m1.1 62 23) ≠ (m1.1 62 24)))).bind fun c19 =>
  some c19)
  else
  (if (m1.1 62 26) = 3 then
  ((if (m1.1 62 23) ≠ (m1.1 62 24) then (if (m1.1 62 23) ≠ (m1.1 62 25) then (some (decide ((m1.1 62 24) ≠ (m1.1 62 25)))) else (some false)) else (some false)).bind fun c27 =>
  some c27)
  else
  (if (m1.1 62 26) = 5 then
  ((if (m1.1 62 23) ≠ (m1.1 62 24) then ((ldA 36 m1 64 ((6 * (m1.1 62 23)) + (m1.1 62 24))).bind fun x46 =>
  some (decide (x46 = 1))) else (some false)).bind fun c39 =>
  some c39)
  else
  ((if (m1.1 62 26) ≠ 7 then (some true) else ((ldA 6 m1 68 (m1.1 62 23)).bind fun x59 =>
  some (decide (x59 = ((m1.1 62 22) + 1))))).bind fun c51 =>
  some c51))))
def M_changeOwners (m1 : MI) : Option (MI) :=
  (M_takeNow m1).bind fun m2 =>
  ((if (m2.1 62 26) = 1 then (some true) else (some (decide ((m2.1 62 26) = 4)))).bind fun c10 =>
  if c10 then
  ((stA 6 m2 69 (m2.1 62 23) ((m2.1 62 22) + 1)).bind fun m15 =>
  some m15)
  else
  (some m2) : Option (MI)).bind fun m8 =>
  (if (m8.1 62 26) = 2 then
  ((ldA 6 m8 68 (m8.1 62 24)).bind fun x29 =>
  (stA 6 m8 69 (m8.1 62 23) x29).bind fun m32 =>
  (ldA 6 m32 68 (m32.1 62 23)).bind fun x35 =>
  (stA 6 m32 69 (m32.1 62 24) x35).bind fun m38 =>
  some m38)
  else
  (some m8) : Option (MI)).bind fun m26 =>
  (if (m26.1 62 26) = 3 then
  ((ldA 6 m26 68 (m26.1 62 23)).bind fun x49 =>
  (stA 6 m26 69 (m26.1 62 24) x49).bind fun m52 =>
  (ldA 6 m52 68 (m52.1 62 24)).bind fun x55 =>
  (stA 6 m52 69 (m52.1 62 25) x55).bind fun m58 =>
  (ldA 6 m58 68 (m58.1 62 25)).bind fun x61 =>
  (stA 6 m58 69 (m58.1 62 23) x61).bind fun m64 =>
  some m64)
  else
  (some m26) : Option (MI)).bind fun m46 =>
  ((if (m46.1 62 26) = 6 then (some true) else (some (decide ((m46.1 62 26) = 7)))).bind fun c74 =>
  if c74 then
  ((stA 6 m46 69 (m46.1 62 23) 0).bind fun m79 =>
  some m79)
  else
  (some m46) : Option (MI)).bind fun m72 =>
  some m72
def M_add (p1 : Int32) (n2 : Int32) (m3 : MI) : Option (MI) :=
  (ldA 3 m3 75 p1).bind fun x4 =>
  (some (x4 + n2) : Option Int32).bind fun v7 =>
  (if 999 < v7 then
  (some 999)
  else
  (some v7) : Option (Int32)).bind fun x10 =>
  (stA 3 m3 75 p1 x10).bind fun m16 =>
  some m16
def M_pay_s1 : Int32 × MI → Option ((Int32 × MI) ⊕ (MI)) := fun (p6, m7) =>
  if p6 < 3 then
  ((ldA 3 m7 65 p6).bind fun x10 =>
  (stA 3 m7 75 p6 x10).bind fun m13 =>
  (some (p6 + 1) : Option Int32).bind fun i16 =>
  some (.inl (i16, m13)))
  else
  (some (.inr m7))
def M_pay (m1 : MI) : Option (MI) :=
  (lp (M_pay_s1) FUEL (0, m1)).bind fun m8 =>
  (ldA 6 m8 63 (m8.1 62 23)).bind fun x21 =>
  (some ((10 * x21) + (m8.1 62 25)) : Option Int32).bind fun price24 =>
  ((if (m8.1 62 26) = 1 then (some true) else (some (decide ((m8.1 62 26) = 4)))).bind fun c32 =>
  if c32 then
  ((if (m8.1 62 26) = 4 then
  (some (2 * price24))
  else
  (some price24) : Option (Int32)).bind fun x37 =>
  (M_add (m8.1 62 22) (-x37) m8).bind fun m43 =>
  ((ldA 6 m43 68 (m43.1 62 23)).bind fun x51 =>
  if 0 < x51 then
  ((ldA 6 m43 68 (m43.1 62 23)).bind fun x55 =>
  (M_add (x55 - 1) x37 m43).bind fun m58 =>
  some m58)
  else
  (some m43) : Option (MI)).bind fun m49 =>
  some m49)
  else
  (some m8) : Option (MI)).bind fun m30 =>
  (if (m30.1 62 26) = 5 then
  ((M_add (m30.1 62 22) ((-5) * (m30.1 62 25)) m30).bind fun m74 =>
  some m74)
  else
  (some m30) : Option (MI)).bind fun m71 =>
  (if (m71.1 62 26) = 7 then
  ((M_add (m71.1 62 22) (price24 / 2) m71).bind fun m85 =>
  some m85)
  else
  (some m71) : Option (MI)).bind fun m82 =>
  some m82
def M_canBeDone (m1 : MI) : Option (Bool × MI) :=
  (M_isAsTold m1).bind fun b2 =>
  if b2 then
  ((M_changeOwners m1).bind fun m6 =>
  (if (m6.1 62 26) = 5 then
  ((ldA 36 m6 64 ((6 * (m6.1 62 23)) + (m6.1 62 24))).bind fun x14 =>
  some x14)
  else
  (some 0) : Option (Int32)).bind fun x9 =>
  (if (m6.1 62 26) = 5 then
  ((stA 36 m6 64 ((6 * (m6.1 62 23)) + (m6.1 62 24)) 2).bind fun m24 =>
  (stA 36 m24 64 ((6 * (m24.1 62 24)) + (m24.1 62 23)) 2).bind fun m27 =>
  some m27)
  else
  (some m6) : Option (MI)).bind fun m21 =>
  (M_isFine m21).bind fun b32 =>
  (if (m21.1 62 26) = 5 then
  ((stA 36 m21 64 ((6 * (m21.1 62 23)) + (m21.1 62 24)) x9).bind fun m41 =>
  (stA 36 m41 64 ((6 * (m41.1 62 24)) + (m41.1 62 23)) x9).bind fun m44 =>
  some m44)
  else
  (some m21) : Option (MI)).bind fun m38 =>
  (M_pay m38).bind fun m49 =>
  (if b32 then ((ldA 3 m49 75 0).bind fun x59 =>
  if 0 ≤ x59 then ((ldA 3 m49 75 1).bind fun x63 =>
  if 0 ≤ x63 then ((ldA 3 m49 75 2).bind fun x67 =>
  some (decide (0 ≤ x67))) else (some false)) else (some false)) else (some false)).bind fun c52 =>
  some (c52, m49))
  else
  (some (false, m1))
def M_isWanted_s1 : Bool × Int32 × MI → Option ((Bool × Int32 × MI) ⊕ (Bool × MI)) := fun (wanted9, p10, m11) =>
  (if p10 < (m11.1 62 5) then (some (decide ((m11.1 62 26) < 6))) else (some false)).bind fun c14 =>
  if c14 then
  ((M_takeNow m11).bind fun m19 =>
  (M_worthOf p10 m19).bind fun r22 =>
  (M_changeOwners m19).bind fun m25 =>
  (if wanted9 then ((M_worthOf p10 m25).bind fun r35 =>
  some (decide (r22 ≤ r35))) else (some false)).bind fun c28 =>
  (some (p10 + 1) : Option Int32).bind fun i39 =>
  some (.inl (c28, i39, m25)))
  else
  (some (.inr (wanted9, m11)))
def M_isWanted (m1 : MI) : Option (Bool × MI) :=
  (M_isAsTold m1).bind fun b2 =>
  (lp (M_isWanted_s1) FUEL (b2, 0, m1)).bind fun (wanted12, m13) =>
  some (wanted12, m13)
def M_may (d1 : Int32) (what2 : Int32) (m3 : MI) : Option (Int32 × MI) :=
  (stF m3 62 10 0).bind fun m4 =>
  ((M_in what2.toInt64 0 1).bind fun b58 =>
  if b58 then ((M_wrongMove d1 m4).bind fun r62 =>
  some (decide (r62 < 0))) else (some true)).bind fun c7 =>
  if c7 then
  (((M_in what2.toInt64 0 1).bind fun b16 =>
  if b16 then
  ((M_wrongMove d1 m4).bind fun r20 =>
  some r20)
  else
  (some (-1)) : Option (Int32)).bind fun x12 =>
  some (x12, m4))
  else
  ((M_openMove d1 m4).bind fun (b26, m27) =>
  if b26 then
  (((if what2 = 0 then ((M_canBeDone m27).bind fun (b48, m49) =>
  some (b48, m49)) else ((M_isWanted m27).bind fun (b53, m54) =>
  some (b53, m54))).bind fun (c39, m40) =>
  if c39 then
  (some (1, m40))
  else
  (some (0, m40)) : Option (Int32 × MI)).bind fun (x31, m32) =>
  some (x31, m32))
  else
  (some ((-13), m27)))
def M_move_s1 : Int32 × Int32 × MI → Option ((Int32 × Int32 × MI) ⊕ (Int32 × MI)) := fun (n28, f29, m30) =>
  if f29 < (m30.1 62 0) then
  (((ldA 6 m30 68 f29).bind fun x38 =>
  (ldA 6 m30 69 f29).bind fun x41 =>
  if x38 = x41 then
  (some 0)
  else
  (some 1) : Option (Int32)).bind fun x34 =>
  (some (n28 + x34) : Option Int32).bind fun n46 =>
  (ldA 6 m30 69 f29).bind fun x49 =>
  (stA 6 m30 68 f29 x49).bind fun m52 =>
  (some (f29 + 1) : Option Int32).bind fun i55 =>
  some (.inl (n46, i55, m52)))
  else
  (some (.inr (n28, m30)))
def M_move_s2 : Int32 × MI → Option ((Int32 × MI) ⊕ (MI)) := fun (p64, m65) =>
  if p64 < 3 then
  ((ldA 3 m65 75 p64).bind fun x68 =>
  (stA 3 m65 65 p64 x68).bind fun m71 =>
  (some (p64 + 1) : Option Int32).bind fun i74 =>
  some (.inl (i74, m71)))
  else
  (some (.inr m65))
def M_move (d1 : Int32) (m2 : MI) : Option (Int32 × MI) :=
  (stF m2 62 10 0).bind fun m3 =>
  (M_wrongMove d1 m3).bind fun r6 =>
  if r6 < 0 then
  ((M_wrongMove d1 m3).bind fun r10 =>
  some (r10, m3))
  else
  ((M_openMove d1 m3).bind fun (b14, m15) =>
  if b14 then
  ((M_canBeDone m15).bind fun (b19, m20) =>
  if b19 then
  ((lp (M_move_s1) FUEL (0, 0, m20)).bind fun (n31, m32) =>
  (lp (M_move_s2) FUEL (0, m32)).bind fun m66 =>
  (if (m66.1 62 26) = 5 then
  ((stA 36 m66 64 ((6 * (m66.1 62 23)) + (m66.1 62 24)) 2).bind fun m85 =>
  (stA 36 m85 64 ((6 * (m85.1 62 24)) + (m85.1 62 23)) 2).bind fun m88 =>
  some m88)
  else
  (some m66) : Option (MI)).bind fun m82 =>
  some (n31, m82))
  else
  (some ((-3), m20)))
  else
  (some ((-13), m15)))
def M_judge_s1 (x11 : Int32) (d1 : Int32) : Int32 × MI → Option ((Int32 × MI) ⊕ ((MI) ⊕ (Int32 × MI))) := fun (i21, m22) =>
  if (i21 + 1) < x11 then
  ((ldL 800 m22 90 ((100 * d1) + i21)).bind fun x25 =>
  (ldL 800 m22 90 (((100 * d1) + i21) + 1)).bind fun x28 =>
  (((M_in x25 0 ((((m22.1 62 5) - 1)).toInt64)).bind fun b65 =>
  if b65 then (some false) else (some (decide (x25 ≠ 9)))).bind fun c55 =>
  if c55 then (some true) else ((M_in x28 0 ((((m22.1 62 0) - 1)).toInt64)).bind fun b62 =>
  some (!b62))).bind fun c31 =>
  if c31 then
  (some (.inr (.inr (i21, m22))))
  else
  ((if x25 = 9 then
  (some 0)
  else
  (some ((x25.toInt32) + 1)) : Option (Int32)).bind fun x38 =>
  (stA 6 m22 69 (x28.toInt32) x38).bind fun m44 =>
  (M_isFine m44).bind fun b47 =>
  if b47 then
  ((some (i21 + 2) : Option Int32).bind fun i51 =>
  some (.inl (i51, m44)))
  else
  (some (.inr (.inr (i21, m44))))))
  else
  (some (.inr (.inl m22)))
def M_judge (d1 : Int32) (m2 : MI) : Option (Int32 × MI) :=
  (stF m2 62 10 0).bind fun m3 =>
  (M_wrongBytes d1 m3).bind fun r6 =>
  if r6 < 0 then
  (some (r6, m3))
  else
  ((ldA 8 m3 89 d1).bind fun x11 =>
  (M_takeNow m3).bind fun m14 =>
  (lp (M_judge_s1 x11 d1) FUEL (0, m14)).bind fun o17 => Sum.elim (fun m23 => (if (rm32 x11 2) = 1 then
  (some x11)
  else
  (some (-4)) : Option (Int32)).bind fun x72 =>
  some (x72, m23)) (fun r78 => some r78) o17)
def M_power_s1 (n2 : Int32) (of1 : Int32) : Int32 × Int32 → Option ((Int32 × Int32) ⊕ (Int32)) := fun (v7, k8) =>
  if k8 < n2 then
  ((some (v7 * of1) : Option Int32).bind fun v11 =>
  (some (k8 + 1) : Option Int32).bind fun i14 =>
  some (.inl (v11, i14)))
  else
  (some (.inr v7))
def M_power (of1 : Int32) (n2 : Int32) : Option (Int32) :=
  (lp (M_power_s1 n2 of1) FUEL (1, 0)).bind fun v9 =>
  some v9
def M_spread_s1 (of2 : Int32) : Int32 × Int32 × MI → Option ((Int32 × Int32 × MI) ⊕ (Int32 × MI)) := fun (rest11, f12, m13) =>
  if 0 ≤ f12 then
  ((rmO rest11 of2).bind fun q17 =>
  (stA 6 m13 76 f12 q17).bind fun m20 =>
  (dv rest11 of2).bind fun q23 =>
  (some (f12 + (-1)) : Option Int32).bind fun i26 =>
  some (.inl (q23, i26, m20)))
  else
  (some (.inr (rest11, m13)))
def M_spread (number1 : Int32) (of2 : Int32) (m3 : MI) : Option (MI) :=
  (some ((m3.1 62 0) - 1) : Option Int32).bind fun f4 =>
  (lp (M_spread_s1 of2) FUEL (number1, f4, m3)).bind fun (rest14, m15) =>
  some m15
def M_isColouring_s2 (a7 : Int32) (m1 : MI) : Bool × Int32 → Option ((Bool × Int32) ⊕ (Bool)) := fun (x14, b15) =>
  if b15 < a7 then
  ((if x14 then ((ldA 6 m1 76 a7).bind fun x25 =>
  (ldA 6 m1 76 b15).bind fun x28 =>
  if x25 ≠ x28 then (some true) else ((M_bars a7 b15 m1).bind fun b33 =>
  some (!b33))) else (some false)).bind fun c18 =>
  (some (b15 + 1) : Option Int32).bind fun i37 =>
  some (.inl (c18, i37)))
  else
  (some (.inr x14))
def M_isColouring_s1 (m1 : MI) : Bool × Int32 → Option ((Bool × Int32) ⊕ (Bool)) := fun (x6, a7) =>
  if a7 < (m1.1 62 0) then
  ((lp (M_isColouring_s2 a7 m1) FUEL (x6, 0)).bind fun x16 =>
  (some (a7 + 1) : Option Int32).bind fun i42 =>
  some (.inl (x16, i42)))
  else
  (some (.inr x6))
def M_isColouring (m1 : MI) : Option (Bool) :=
  (lp (M_isColouring_s1 m1) FUEL (true, 0)).bind fun x8 =>
  some x8
def M_fewest_s2 (r21 : Int32) (n17 : Int32) (f1 : Int32) : Int32 × MI → Option ((Int32 × MI) ⊕ ((MI) ⊕ (Int32 × MI))) := fun (number28, m29) =>
  if number28 < r21 then
  ((if n17 = 0 then
  (some 1)
  else
  (some n17) : Option (Int32)).bind fun x32 =>
  (M_spread number28 x32 m29).bind fun m38 =>
  (M_isColouring m38).bind fun b41 =>
  if b41 then
  ((if f1 < 0 then
  (some n17)
  else
  ((ldA 6 m38 76 f1).bind fun x51 =>
  some x51) : Option (Int32)).bind fun x45 =>
  some (.inr (.inr (x45, m38))))
  else
  ((some (number28 + 1) : Option Int32).bind fun i55 =>
  some (.inl (i55, m38))))
  else
  (some (.inr (.inl m29)))
def M_fewest_s1 (f1 : Int32) : Int32 × MI → Option ((Int32 × MI) ⊕ ((MI) ⊕ (Int32 × MI))) := fun (n17, m18) =>
  if n17 ≤ (m18.1 62 0) then
  ((M_power n17 (m18.1 62 0)).bind fun r21 =>
  (lp (M_fewest_s2 r21 n17 f1) FUEL (0, m18)).bind fun o24 => Sum.elim (fun m30 => (some (n17 + 1) : Option Int32).bind fun i60 =>
  some (.inl (i60, m30))) (fun r63 => some (.inr (.inr r63))) o24)
  else
  (some (.inr (.inl m18)))
def M_fewest (f1 : Int32) (m2 : MI) : Option (Int32 × MI) :=
  (stF m2 62 10 0).bind fun m3 =>
  (if f1 ≠ (-1) then ((M_isField f1 m3).bind fun b68 =>
  some (!b68)) else (some false)).bind fun c6 =>
  if c6 then
  (some ((-1), m3))
  else
  ((lp (M_fewest_s1 f1) FUEL (0, m3)).bind fun o13 => Sum.elim (fun m19 => some (0, m19)) (fun r66 => some r66) o13)
def M_most_s3 (a30 : Int32) (set20 : Int32) (m4 : MI) : Bool × Int32 → Option ((Bool × Int32) ⊕ (Bool)) := fun (may69, b70) =>
  if b70 < a30 then
  ((if may69 then (if ((set20 >>> (b70 &&& 31)) &&& 1) = 0 then (some true) else ((M_bars a30 b70 m4).bind fun b82 =>
  some (!b82))) else (some false)).bind fun c73 =>
  (some (b70 + 1) : Option Int32).bind fun i86 =>
  some (.inl (c73, i86)))
  else
  (some (.inr may69))
def M_most_s2 (m4 : MI) (set20 : Int32) (p1 : Int32) : Bool × Int32 × Int32 → Option ((Bool × Int32 × Int32) ⊕ (Bool × Int32)) := fun (may28, sum29, a30) =>
  (if a30 < (m4.1 62 0) then (some (may28)) else (some false)).bind fun c33 =>
  if c33 then
  ((if ((set20 >>> (a30 &&& 31)) &&& 1) = 1 then
  ((ldA 18 m4 67 ((6 * p1) + a30)).bind fun x45 =>
  (some (sum29 + x45) : Option Int32).bind fun sum48 =>
  ((ldA 6 m4 68 a30).bind fun x57 =>
  if x57 = 0 then (some true) else ((ldA 6 m4 68 a30).bind fun x62 =>
  some (decide (x62 = (p1 + 1))))).bind fun c51 =>
  (lp (M_most_s3 a30 set20 m4) FUEL (c51, 0)).bind fun may71 =>
  some (may71, sum48))
  else
  (some (may28, sum29)) : Option (Bool × Int32)).bind fun (may41, sum42) =>
  (some (a30 + 1) : Option Int32).bind fun i93 =>
  some (.inl (may41, sum42, i93)))
  else
  (some (.inr (may28, sum29)))
def M_most_s1 (m4 : MI) (p1 : Int32) : Int32 × Int32 × Int32 → Option ((Int32 × Int32 × Int32) ⊕ (Int32 × Int32)) := fun (best18, top19, set20) =>
  if set20 < (1 <<< ((m4.1 62 0) &&& 31)) then
  ((lp (M_most_s2 m4 set20 p1) FUEL (true, 0, 0)).bind fun (may31, sum32) =>
  ((if may31 then (some (decide (top19 < sum32))) else (some false)).bind fun c107 =>
  if c107 then
  (some (set20, sum32))
  else
  (some (best18, top19)) : Option (Int32 × Int32)).bind fun (best104, top105) =>
  (some (set20 + 1) : Option Int32).bind fun i117 =>
  some (.inl (best104, top105, i117)))
  else
  (some (.inr (best18, top19)))
def M_most (p1 : Int32) (what2 : Int32) (m3 : MI) : Option (Int32 × MI) :=
  (stF m3 62 10 0).bind fun m4 =>
  ((M_isPerson p1 m4).bind fun b128 =>
  if b128 then ((M_in what2.toInt64 0 1).bind fun b132 =>
  some (!b132)) else (some true)).bind fun c7 =>
  if c7 then
  (some ((-1), m4))
  else
  ((lp (M_most_s1 m4 p1) FUEL (0, 0, 1)).bind fun (best21, top22) =>
  (if what2 = 0 then
  (some best21)
  else
  (some top22) : Option (Int32)).bind fun x122 =>
  some (x122, m4))
def M_findBest_s2 (musts1 : Bool) : Bool × Int32 × MI → Option ((Bool × Int32 × MI) ⊕ (Bool × MI)) := fun (may27, f28, m29) =>
  if f28 < (m29.1 62 0) then
  ((ldA 6 m29 76 f28).bind fun x33 =>
  (stA 6 m29 69 f28 x33).bind fun m36 =>
  (if may27 then (if musts1 then ((ldA 6 m36 68 f28).bind fun x47 =>
  if x47 = 0 then (some true) else ((ldA 6 m36 68 f28).bind fun x52 =>
  (ldA 6 m36 76 f28).bind fun x55 =>
  some (decide (x52 = x55)))) else (some true)) else (some false)).bind fun c39 =>
  (some (f28 + 1) : Option Int32).bind fun i60 =>
  some (.inl (c39, i60, m36)))
  else
  (some (.inr (may27, m29)))
def M_findBest_s1 (r9 : Int32) (musts1 : Bool) : Int32 × MI → Option ((Int32 × MI) ⊕ (MI)) := fun (number16, m17) =>
  if number16 < r9 then
  ((M_spread number16 ((m17.1 62 5) + 1) m17).bind fun m20 =>
  (lp (M_findBest_s2 musts1) FUEL (true, 0, m20)).bind fun (may30, m31) =>
  ((if may30 then ((M_isFine m31).bind fun b87 =>
  if b87 then ((M_worthOfAll m31).bind fun r91 =>
  some (decide ((m31.1 62 30) < r91))) else (some false)) else (some false)).bind fun c70 =>
  if c70 then
  ((stF m31 62 29 number16).bind fun m75 =>
  (M_worthOfAll m75).bind fun r78 =>
  (stF m75 62 30 r78).bind fun m81 =>
  some m81)
  else
  (some m31) : Option (MI)).bind fun m68 =>
  (some (number16 + 1) : Option Int32).bind fun i97 =>
  some (.inl (i97, m68)))
  else
  (some (.inr m17))
def M_findBest (musts1 : Bool) (m2 : MI) : Option (MI) :=
  (stF m2 62 29 (-1)).bind fun m3 =>
  (stF m3 62 30 (-1)).bind fun m6 =>
  (M_power ((m6.1 62 5) + 1) (m6.1 62 0)).bind fun r9 =>
  (lp (M_findBest_s1 r9 musts1) FUEL (0, m6)).bind fun m18 =>
  some m18
def M_bestTold (f1 : Int32) (m2 : MI) : Option (Int32 × MI) :=
  if f1 < 0 then
  (some ((m2.1 62 30), m2))
  else
  ((M_spread (m2.1 62 29) ((m2.1 62 5) + 1) m2).bind fun m5 =>
  ((ldA 6 m5 76 f1).bind fun x12 =>
  if x12 = 0 then
  (some (-4))
  else
  ((ldA 6 m5 76 f1).bind fun x17 =>
  some (x17 - 1)) : Option (Int32)).bind fun x8 =>
  some (x8, m5))
def M_best (f1 : Int32) (m2 : MI) : Option (Int32 × MI) :=
  (stF m2 62 10 0).bind fun m3 =>
  (if f1 ≠ (-1) then ((M_isField f1 m3).bind fun b21 =>
  some (!b21)) else (some false)).bind fun c6 =>
  if c6 then
  (some ((-1), m3))
  else
  ((M_findBest false m3).bind fun m13 =>
  (M_bestTold f1 m13).bind fun (r16, m17) =>
  some (r16, m17))
def M_withMusts (f1 : Int32) (m2 : MI) : Option (Int32 × MI) :=
  (stF m2 62 10 0).bind fun m3 =>
  (if f1 ≠ (-1) then ((M_isField f1 m3).bind fun b30 =>
  some (!b30)) else (some false)).bind fun c6 =>
  if c6 then
  (some ((-1), m3))
  else
  ((M_findBest true m3).bind fun m13 =>
  (if (m13.1 62 29) < 0 then
  (some ((-4), m13))
  else
  ((M_bestTold f1 m13).bind fun (r24, m25) =>
  some (r24, m25)) : Option (Int32 × MI)).bind fun (x16, m17) =>
  some (x16, m17))
def M_numberOf_s1 (m1 : MI) : Int32 × Int32 → Option ((Int32 × Int32) ⊕ (Int32)) := fun (v6, f7) =>
  if f7 < (m1.1 62 0) then
  ((ldA 6 m1 69 f7).bind fun x10 =>
  (some ((v6 * ((m1.1 62 5) + 1)) + x10) : Option Int32).bind fun v13 =>
  (some (f7 + 1) : Option Int32).bind fun i16 =>
  some (.inl (v13, i16)))
  else
  (some (.inr v6))
def M_numberOf (m1 : MI) : Option (Int32) :=
  (lp (M_numberOf_s1 m1) FUEL (0, 0)).bind fun v8 =>
  some v8
def M_chain_s1 (m3 : MI) (d1 : Int32) : Bool × Int32 → Option ((Bool × Int32) ⊕ (Bool)) := fun (good24, f25) =>
  ((ldA 8 m3 89 d1).bind fun x51 =>
  if f25 < x51 then (some (good24)) else (some false)).bind fun c27 =>
  if c27 then
  ((ldL 800 m3 90 ((100 * d1) + f25)).bind fun x32 =>
  ((M_in x32 0 ((((m3.1 62 5) - 1)).toInt64)).bind fun b41 =>
  if b41 then (some true) else (some (decide (x32 = 9)))).bind fun c35 =>
  (some (f25 + 1) : Option Int32).bind fun i46 =>
  some (.inl (c35, i46)))
  else
  (some (.inr good24))
def M_chain_s2 (d1 : Int32) : Int32 × MI → Option ((Int32 × MI) ⊕ (MI)) := fun (f62, m63) =>
  if f62 < (m63.1 62 0) then
  ((ldL 800 m63 90 ((100 * d1) + f62)).bind fun x66 =>
  (if x66 = 9 then
  (some 0)
  else
  (some ((x66.toInt32) + 1)) : Option (Int32)).bind fun x69 =>
  (stA 6 m63 69 f62 x69).bind fun m75 =>
  (some (f62 + 1) : Option Int32).bind fun i78 =>
  some (.inl (i78, m75)))
  else
  (some (.inr m63))
def M_chain_s3 : Int32 × MI → Option ((Int32 × MI) ⊕ (MI)) := fun (k90, m91) =>
  if k90 < 4096 then
  ((stA 4096 m91 77 k90 (-4)).bind fun m94 =>
  (some (k90 + 1) : Option Int32).bind fun i97 =>
  some (.inl (i97, m94)))
  else
  (some (.inr m91))
def M_chain_s7 (f136 : Int32) (p146 : Int32) : Int32 × MI → Option ((Int32 × MI) ⊕ (MI)) := fun (i161, m162) =>
  if i161 < (m162.1 62 0) then
  ((if i161 = f136 then
  (some p146)
  else
  ((ldA 6 m162 76 i161).bind fun x171 =>
  some x171) : Option (Int32)).bind fun x165 =>
  (stA 6 m162 69 i161 x165).bind fun m174 =>
  (some (i161 + 1) : Option Int32).bind fun i177 =>
  some (.inl (i177, m174)))
  else
  (some (.inr m162))
def M_chain_s6 (k122 : Int32) (f136 : Int32) : Int32 × Int32 × MI → Option ((Int32 × Int32 × MI) ⊕ (Int32 × MI)) := fun (n145, p146, m147) =>
  if p146 ≤ (m147.1 62 5) then
  ((ldA 4096 m147 78 k122).bind fun x151 =>
  (M_spread x151 ((m147.1 62 5) + 1) m147).bind fun m154 =>
  (lp (M_chain_s7 f136 p146) FUEL (0, m154)).bind fun m163 =>
  (M_numberOf m163).bind fun r182 =>
  (((ldA 4096 m163 77 r182).bind fun x213 =>
  if x213 < 0 then ((M_isFine m163).bind fun b217 =>
  some (b217)) else (some false)).bind fun c191 =>
  if c191 then
  ((ldA 4096 m163 78 k122).bind fun x196 =>
  (ldA 4096 m163 77 x196).bind fun x199 =>
  (stA 4096 m163 77 r182 (x199 + 1)).bind fun m202 =>
  (stA 4096 m202 78 n145 r182).bind fun m205 =>
  (some (n145 + 1) : Option Int32).bind fun i208 =>
  some (i208, m205))
  else
  (some (n145, m163)) : Option (Int32 × MI)).bind fun (n188, m189) =>
  (some (p146 + 1) : Option Int32).bind fun i222 =>
  some (.inl (n188, i222, m189)))
  else
  (some (.inr (n145, m147)))
def M_chain_s5 (k122 : Int32) : Int32 × Int32 × MI → Option ((Int32 × Int32 × MI) ⊕ (Int32 × MI)) := fun (n135, f136, m137) =>
  if f136 < (m137.1 62 0) then
  ((lp (M_chain_s6 k122 f136) FUEL (n135, 0, m137)).bind fun (n148, m149) =>
  (some (f136 + 1) : Option Int32).bind fun i227 =>
  some (.inl (n148, i227, m149)))
  else
  (some (.inr (n135, m137)))
def M_chain_s4 (r83 : Int32) : Int32 × Int32 × MI → Option ((Int32 × Int32 × MI) ⊕ (Int32 × MI)) := fun (n121, k122, m123) =>
  (if k122 < n121 then ((ldA 4096 m123 77 r83).bind fun x238 =>
  some (decide (x238 < 0))) else (some false)).bind fun c126 =>
  if c126 then
  ((lp (M_chain_s5 k122) FUEL (n121, 0, m123)).bind fun (n138, m139) =>
  (some (k122 + 1) : Option Int32).bind fun i232 =>
  some (.inl (n138, i232, m139)))
  else
  (some (.inr (n121, m123)))
def M_chain (d1 : Int32) (m2 : MI) : Option (Int32 × MI) :=
  (stF m2 62 10 0).bind fun m3 =>
  (M_wrongBytes d1 m3).bind fun r6 =>
  if r6 < 0 then
  (some (r6, m3))
  else
  (((ldA 8 m3 89 d1).bind fun x17 =>
  some (decide (x17 = (m3.1 62 0)))).bind fun c11 =>
  (lp (M_chain_s1 m3 d1) FUEL (c11, 0)).bind fun good26 =>
  if good26 then
  ((lp (M_chain_s2 d1) FUEL (0, m3)).bind fun m64 =>
  (M_numberOf m64).bind fun r83 =>
  (lp (M_chain_s3) FUEL (0, m64)).bind fun m92 =>
  (M_takeNow m92).bind fun m102 =>
  (M_numberOf m102).bind fun r105 =>
  (stA 4096 m102 78 0 r105).bind fun m108 =>
  (ldA 4096 m108 78 0).bind fun x111 =>
  (stA 4096 m108 77 x111 0).bind fun m114 =>
  (lp (M_chain_s4 r83) FUEL (1, 0, m114)).bind fun (n124, m125) =>
  (ldA 4096 m125 77 r83).bind fun x243 =>
  some (x243, m125))
  else
  (some ((-13), m3)))
def M_flood_s2 (set29 : Int32) : Bool × Int32 × Int32 × MI → Option ((Bool × Int32 × Int32 × MI) ⊕ (Bool × Int32 × MI)) := fun (owned42, lost43, f44, m45) =>
  if f44 < (m45.1 62 0) then
  ((if ((set29 >>> (f44 &&& 31)) &&& 1) = 1 then
  ((if owned42 then ((ldA 6 m45 68 f44).bind fun x65 =>
  some (decide (0 < x65))) else (some false)).bind fun c58 =>
  ((ldA 6 m45 68 f44).bind fun x73 =>
  if 0 < x73 then
  ((ldA 6 m45 68 f44).bind fun x77 =>
  (ldA 18 m45 67 ((6 * (x77 - 1)) + f44)).bind fun x80 =>
  some x80)
  else
  (some 0) : Option (Int32)).bind fun x69 =>
  (some (lost43 + x69) : Option Int32).bind fun lost84 =>
  (stA 6 m45 69 f44 0).bind fun m87 =>
  some (c58, lost84, m87))
  else
  (some (owned42, lost43, m45)) : Option (Bool × Int32 × MI)).bind fun (owned53, lost54, m55) =>
  (some (f44 + 1) : Option Int32).bind fun i92 =>
  some (.inl (owned53, lost54, i92, m55)))
  else
  (some (.inr (owned42, lost43, m45)))
def M_flood_s1 : Int32 × Int32 × Int32 × MI → Option ((Int32 × Int32 × Int32 × MI) ⊕ (Int32 × Int32 × MI)) := fun (best27, least28, set29, m30) =>
  if set29 < (1 <<< ((m30.1 62 0) &&& 31)) then
  ((M_takeNow m30).bind fun m35 =>
  (lp (M_flood_s2 set29) FUEL (true, 0, 0, m35)).bind fun (owned46, lost47, m48) =>
  ((if owned46 then ((M_isFine m48).bind fun b111 =>
  if b111 then (if best27 < 0 then (some true) else (some (decide (lost47 < least28)))) else (some false)) else (some false)).bind fun c103 =>
  if c103 then
  (some (set29, lost47))
  else
  (some (best27, least28)) : Option (Int32 × Int32)).bind fun (best100, least101) =>
  (some (set29 + 1) : Option Int32).bind fun i120 =>
  some (.inl (best100, least101, i120, m48)))
  else
  (some (.inr (best27, least28, m30)))
def M_flood (a1 : Int32) (b2 : Int32) (m3 : MI) : Option (Int32 × MI) :=
  (stF m3 62 10 0).bind fun m4 =>
  ((M_isField a1 m4).bind fun b131 =>
  if b131 then ((M_isField b2 m4).bind fun b135 =>
  if b135 then (some (decide (a1 = b2))) else (some true)) else (some true)).bind fun c7 =>
  if c7 then
  (some ((-1), m4))
  else
  ((ldA 36 m4 64 ((6 * a1) + b2)).bind fun x14 =>
  (stA 36 m4 64 ((6 * a1) + b2) 1).bind fun m17 =>
  (stA 36 m17 64 ((6 * b2) + a1) 1).bind fun m20 =>
  (lp (M_flood_s1) FUEL ((-1), 0, 0, m20)).bind fun (best31, least32, m33) =>
  (stA 36 m33 64 ((6 * a1) + b2) x14).bind fun m125 =>
  (stA 36 m125 64 ((6 * b2) + a1) x14).bind fun m128 =>
  some (best31, m128))
def M_frees_s2 (a17 : Int32) : Int32 × Int32 × Int32 × MI → Option ((Int32 × Int32 × Int32 × MI) ⊕ (Int32 × Int32 × MI)) := fun (top30, found31, b32, m33) =>
  if b32 < (m33.1 62 0) then
  (((ldA 36 m33 64 ((6 * a17) + b32)).bind fun x45 =>
  if x45 = 1 then
  ((stA 36 m33 64 ((6 * a17) + b32) 2).bind fun m49 =>
  (stA 36 m49 64 ((6 * b32) + a17) 2).bind fun m52 =>
  (M_findBest false m52).bind fun m55 =>
  (stA 36 m55 64 ((6 * a17) + b32) 1).bind fun m58 =>
  (stA 36 m58 64 ((6 * b32) + a17) 1).bind fun m61 =>
  (if top30 < (m61.1 62 30) then
  ((some (m61.1 62 30) : Option Int32).bind fun top71 =>
  (some ((10 * a17) + b32) : Option Int32).bind fun found74 =>
  some (top71, found74))
  else
  (some (top30, found31)) : Option (Int32 × Int32)).bind fun (top67, found68) =>
  some (top67, found68, m61))
  else
  (some (top30, found31, m33)) : Option (Int32 × Int32 × MI)).bind fun (top41, found42, m43) =>
  (some (b32 + 1) : Option Int32).bind fun i81 =>
  some (.inl (top41, found42, i81, m43)))
  else
  (some (.inr (top30, found31, m33)))
def M_frees_s1 : Int32 × Int32 × Int32 × MI → Option ((Int32 × Int32 × Int32 × MI) ⊕ (Int32 × Int32 × MI)) := fun (top15, found16, a17, m18) =>
  if a17 < (m18.1 62 0) then
  ((some (a17 + 1) : Option Int32).bind fun b23 =>
  (lp (M_frees_s2 a17) FUEL (top15, found16, b23, m18)).bind fun (top34, found35, m36) =>
  (some (a17 + 1) : Option Int32).bind fun i86 =>
  some (.inl (top34, found35, i86, m36)))
  else
  (some (.inr (top15, found16, m18)))
def M_frees (m1 : MI) : Option (Int32 × MI) :=
  (stF m1 62 10 0).bind fun m2 =>
  (M_findBest false m2).bind fun m5 =>
  (some (m5.1 62 30) : Option Int32).bind fun top8 =>
  (lp (M_frees_s1) FUEL (top8, (-4), 0, m5)).bind fun (top19, found20, m21) =>
  some (found20, m21)
def M_spreadGame_s1 : Int32 × Int32 × MI → Option ((Int32 × Int32 × MI) ⊕ (Int32 × MI)) := fun (rest7, f8, m9) =>
  if f8 < 6 then
  ((stA 6 m9 81 f8 (rm32 rest7 3)).bind fun m13 =>
  (some (rest7 / 3) : Option Int32).bind fun rest16 =>
  (some (f8 + 1) : Option Int32).bind fun i19 =>
  some (.inl (rest16, i19, m13)))
  else
  (some (.inr (rest7, m9)))
def M_spreadGame (state1 : Int32) (m2 : MI) : Option (MI) :=
  (lp (M_spreadGame_s1) FUEL (state1, 0, m2)).bind fun (rest10, m11) =>
  some m11
def M_free_s1 (m1 : MI) : Int32 × Int32 → Option ((Int32 × Int32) ⊕ (Int32)) := fun (n6, f7) =>
  if f7 < (m1.1 62 0) then
  ((((ldA 6 m1 68 f7).bind fun x21 =>
  if x21 = 0 then ((ldA 6 m1 81 f7).bind fun x25 =>
  some (decide (x25 = 0))) else (some false)).bind fun c14 =>
  if c14 then
  (some 1)
  else
  (some 0) : Option (Int32)).bind fun x10 =>
  (some (n6 + x10) : Option Int32).bind fun n29 =>
  (some (f7 + 1) : Option Int32).bind fun i32 =>
  some (.inl (n29, i32)))
  else
  (some (.inr n6))
def M_free (m1 : MI) : Option (Int32) :=
  (lp (M_free_s1 m1) FUEL (0, 0)).bind fun n8 =>
  some n8
def M_canTake_s1 (m3 : MI) (p2 : Int32) (f1 : Int32) : Bool × Int32 → Option ((Bool × Int32) ⊕ (Bool)) := fun (can22, k23) =>
  if k23 < (m3.1 62 0) then
  (((ldA 6 m3 68 k23).bind fun x32 =>
  if x32 = (p2 + 1) then (some true) else ((ldA 6 m3 81 k23).bind fun x37 =>
  some (decide (x37 = (p2 + 1))))).bind fun c26 =>
  (if can22 then (if c26 then (if k23 ≠ f1 then ((M_bars f1 k23 m3).bind fun b49 =>
  some (!b49)) else (some true)) else (some true)) else (some false)).bind fun c40 =>
  (some (k23 + 1) : Option Int32).bind fun i55 =>
  some (.inl (c40, i55)))
  else
  (some (.inr can22))
def M_canTake (f1 : Int32) (p2 : Int32) (m3 : MI) : Option (Bool) :=
  ((ldA 6 m3 68 f1).bind fun x10 =>
  if x10 = 0 then ((ldA 6 m3 81 f1).bind fun x14 =>
  some (decide (x14 = 0))) else (some false)).bind fun c4 =>
  (lp (M_canTake_s1 m3 p2 f1) FUEL (c4, 0)).bind fun can24 =>
  some can24
def M_solveState_s1 (m3 : MI) (p2 : Int32) (state1 : Int32) : Int32 × Bool × Int32 × Int32 × Int32 → Option ((Int32 × Bool × Int32 × Int32 × Int32) ⊕ (Int32 × Bool × Int32 × Int32)) := fun (unit8, won9, best10, moves11, f12) =>
  if f12 < (m3.1 62 0) then
  (((M_canTake f12 p2 m3).bind fun b25 =>
  if b25 then
  ((some (((2 * (state1 + (unit8 * (p2 + 1)))) + 1) - p2) : Option Int32).bind fun then29 =>
  (if won9 then (some true) else ((ldB 1458 m3 79 then29).bind fun x40 =>
  some (!x40))).bind fun c32 =>
  (ldA 1458 m3 80 then29).bind fun x43 =>
  (if p2 = 0 then
  (some 1)
  else
  (some (-1)) : Option (Int32)).bind fun x46 =>
  (some (x43 + x46) : Option Int32).bind fun v52 =>
  ((if moves11 = 0 then (some true) else (if p2 = 0 then (some (decide (best10 < v52))) else (some (decide (v52 < best10))))).bind fun c59 =>
  if c59 then
  (some v52)
  else
  (some best10) : Option (Int32)).bind fun x55 =>
  (some (moves11 + 1) : Option Int32).bind fun i70 =>
  some (c32, x55, i70))
  else
  (some (won9, best10, moves11)) : Option (Bool × Int32 × Int32)).bind fun (won21, best22, moves23) =>
  (some (unit8 * 3) : Option Int32).bind fun unit75 =>
  (some (f12 + 1) : Option Int32).bind fun i78 =>
  some (.inl (unit75, won21, best22, moves23, i78)))
  else
  (some (.inr (unit8, won9, best10, moves11)))
def M_solveState (state1 : Int32) (p2 : Int32) (m3 : MI) : Option (MI) :=
  (lp (M_solveState_s1 m3 p2 state1) FUEL (1, false, 0, 0, 0)).bind fun (unit13, won14, best15, moves16) =>
  (stB 1458 m3 79 ((2 * state1) + p2) won14).bind fun m83 =>
  (stA 1458 m83 80 ((2 * state1) + p2) best15).bind fun m86 =>
  (some (decide (moves16 = 0))).bind fun c89 =>
  (stB 1458 m86 82 ((2 * state1) + p2) c89).bind fun m95 =>
  some m95
def M_solveGame_s2 (n6 : Int32) : Int32 × MI → Option ((Int32 × MI) ⊕ (MI)) := fun (state14, m15) =>
  if state14 < 729 then
  ((M_spreadGame state14 m15).bind fun m18 =>
  ((M_free m18).bind fun r26 =>
  if r26 = n6 then
  ((M_solveState state14 0 m18).bind fun m30 =>
  (M_solveState state14 1 m30).bind fun m33 =>
  (ldA 1458 m33 80 (2 * state14)).bind fun x36 =>
  (ldA 1458 m33 80 ((2 * state14) + 1)).bind fun x39 =>
  (((ldB 1458 m33 82 (2 * state14)).bind fun x53 =>
  if x53 then ((ldB 1458 m33 82 ((2 * state14) + 1)).bind fun x57 =>
  some (!x57)) else (some false)).bind fun c46 =>
  if c46 then
  (some x39)
  else
  (some x36) : Option (Int32)).bind fun x42 =>
  (stA 1458 m33 80 (2 * state14) x42).bind fun m61 =>
  (((ldB 1458 m61 82 ((2 * state14) + 1)).bind fun x75 =>
  if x75 then ((ldB 1458 m61 82 (2 * state14)).bind fun x79 =>
  some (!x79)) else (some false)).bind fun c68 =>
  if c68 then
  (some x36)
  else
  (some x39) : Option (Int32)).bind fun x64 =>
  (stA 1458 m61 80 ((2 * state14) + 1) x64).bind fun m83 =>
  some m83)
  else
  (some m18) : Option (MI)).bind fun m24 =>
  (some (state14 + 1) : Option Int32).bind fun i88 =>
  some (.inl (i88, m24)))
  else
  (some (.inr m15))
def M_solveGame_s1 : Int32 × MI → Option ((Int32 × MI) ⊕ (MI)) := fun (n6, m7) =>
  if n6 ≤ (m7.1 62 0) then
  ((lp (M_solveGame_s2 n6) FUEL (0, m7)).bind fun m16 =>
  (some (n6 + 1) : Option Int32).bind fun i93 =>
  some (.inl (i93, m16)))
  else
  (some (.inr m7))
def M_solveGame (m1 : MI) : Option (MI) :=
  (lp (M_solveGame_s1) FUEL (0, m1)).bind fun m8 =>
  some m8
def M_game_s1 (m26 : MI) : Int32 × Int32 → Option ((Int32 × Int32) ⊕ ((Int32) ⊕ (Int32 × MI))) := fun (unit33, f34) =>
  if f34 < (m26.1 62 0) then
  (((M_canTake f34 0 m26).bind fun b50 =>
  if b50 then ((ldB 1458 m26 79 ((2 * unit33) + 1)).bind fun x54 =>
  some (!x54)) else (some false)).bind fun c37 =>
  if c37 then
  (some (.inr (.inr (f34, m26))))
  else
  ((some (unit33 * 3) : Option Int32).bind fun unit44 =>
  (some (f34 + 1) : Option Int32).bind fun i47 =>
  some (.inl (unit44, i47))))
  else
  (some (.inr (.inl unit33)))
def M_game (what1 : Int32) (m2 : MI) : Option (Int32 × MI) :=
  (stF m2 62 10 0).bind fun m3 =>
  (M_in what1.toInt64 0 1).bind fun b6 =>
  if b6 then
  (if (m3.1 62 5) < 2 then
  (some ((-3), m3))
  else
  ((M_solveGame m3).bind fun m12 =>
  if what1 = 0 then
  (((ldB 1458 m12 79 0).bind fun x20 =>
  if x20 then
  (some 1)
  else
  (some 0) : Option (Int32)).bind fun x16 =>
  some (x16, m12))
  else
  ((M_spreadGame 0 m12).bind fun m26 =>
  (lp (M_game_s1 m26) FUEL (1, 0)).bind fun o29 => Sum.elim (fun unit35 => some ((-4), m26)) (fun r60 => some r60) o29)))
  else
  (some ((-1), m3))
def M_value (m1 : MI) : Option (Int32 × MI) :=
  (stF m1 62 10 0).bind fun m2 =>
  if (m2.1 62 5) < 2 then
  (some ((-1000000003), m2))
  else
  ((M_solveGame m2).bind fun m7 =>
  (ldA 1458 m7 80 0).bind fun x10 =>
  some (x10, m7))
def M_doClash (d1 : Int32) (i2 : Int32) (j3 : Int32) (m4 : MI) : Option (Bool) :=
  (ldL 800 m4 90 ((100 * d1) + (3 * i2))).bind fun x5 =>
  (ldL 800 m4 90 ((100 * d1) + (3 * j3))).bind fun x8 =>
  (ldL 800 m4 90 (((100 * d1) + (3 * i2)) + 1)).bind fun x11 =>
  (some (x11.toInt32) : Option Int32).bind fun f14 =>
  (ldL 800 m4 90 (((100 * d1) + (3 * j3)) + 1)).bind fun x17 =>
  (some (x17.toInt32) : Option Int32).bind fun g20 =>
  ((ldL 800 m4 90 (((100 * d1) + (3 * i2)) + 2)).bind fun x29 =>
  (ldL 800 m4 90 (((100 * d1) + (3 * j3)) + 2)).bind fun x32 =>
  some (decide (x29 = x32))).bind fun c23 =>
  (if c23 then (if x5 = x8 then (if f14 ≠ g20 then ((M_bars f14 g20 m4).bind fun b44 =>
  some (b44)) else (some false)) else (some (decide (f14 = g20)))) else (some false)).bind fun c35 =>
  some c35
def M_ones_s1 (bits1 : Int32) : Int32 × Int32 → Option ((Int32 × Int32) ⊕ (Int32)) := fun (n6, k7) =>
  if k7 < 8 then
  ((some (n6 + ((bits1 >>> (k7 &&& 31)) &&& 1)) : Option Int32).bind fun n10 =>
  (some (k7 + 1) : Option Int32).bind fun i13 =>
  some (.inl (n10, i13)))
  else
  (some (.inr n6))
def M_ones (bits1 : Int32) : Option (Int32) :=
  (lp (M_ones_s1 bits1) FUEL (0, 0)).bind fun n8 =>
  some n8
def M_deeds_s1 (n29 : Int32) (d1 : Int32) (m4 : MI) : Bool × Int32 → Option ((Bool × Int32) ⊕ (Bool)) := fun (good47, i48) =>
  (if i48 < n29 then (some (good47)) else (some false)).bind fun c50 =>
  if c50 then
  ((some ((100 * d1) + (3 * i48)) : Option Int32).bind fun k55 =>
  ((ldL 800 m4 90 k55).bind fun x64 =>
  (M_in x64 0 ((((m4.1 62 5) - 1)).toInt64)).bind fun b67 =>
  if b67 then ((ldL 800 m4 90 (k55 + 1)).bind fun x71 =>
  (M_in x71 0 ((((m4.1 62 0) - 1)).toInt64)).bind fun b74 =>
  if b74 then ((ldL 800 m4 90 (k55 + 2)).bind fun x78 =>
  (M_in x78 0 9).bind fun b81 =>
  some (b81)) else (some false)) else (some false)).bind fun c58 =>
  (some (i48 + 1) : Option Int32).bind fun i86 =>
  some (.inl (c58, i86)))
  else
  (some (.inr good47))
def M_deeds_s4 (i123 : Int32) (set103 : Int32) (d1 : Int32) (m4 : MI) : Bool × Int32 → Option ((Bool × Int32) ⊕ (Bool)) := fun (fine134, j135) =>
  if j135 < i123 then
  ((if ((set103 >>> (i123 &&& 31)) &&& 1) = 0 then (some (decide (((set103 >>> (j135 &&& 31)) &&& 1) = 0))) else (some false)).bind fun c138 =>
  (if fine134 then (if c138 then ((M_doClash d1 i123 j135 m4).bind fun b154 =>
  some (!b154)) else (some true)) else (some false)).bind fun c146 =>
  (some (j135 + 1) : Option Int32).bind fun i159 =>
  some (.inl (c146, i159)))
  else
  (some (.inr fine134))
def M_deeds_s3 (n29 : Int32) (set103 : Int32) (d1 : Int32) (m4 : MI) : Bool × Int32 → Option ((Bool × Int32) ⊕ (Bool)) := fun (fine122, i123) =>
  (if i123 < n29 then (some (fine122)) else (some false)).bind fun c125 =>
  if c125 then
  ((lp (M_deeds_s4 i123 set103 d1 m4) FUEL (fine122, 0)).bind fun fine136 =>
  (some (i123 + 1) : Option Int32).bind fun i164 =>
  some (.inl (fine136, i164)))
  else
  (some (.inr fine122))
def M_deeds_s2 (n29 : Int32) (d1 : Int32) (m4 : MI) : Int32 × Int32 → Option ((Int32 × Int32) ⊕ (Int32)) := fun (best102, set103) =>
  if set103 < (1 <<< (n29 &&& 31)) then
  (((M_ones set103).bind fun r112 =>
  (M_ones best102).bind fun r115 =>
  some (decide (r112 < r115))).bind fun c106 =>
  (lp (M_deeds_s3 n29 set103 d1 m4) FUEL (c106, 0)).bind fun fine124 =>
  (if fine124 then
  (some set103)
  else
  (some best102) : Option (Int32)).bind fun x172 =>
  (some (set103 + 1) : Option Int32).bind fun i178 =>
  some (.inl (x172, i178)))
  else
  (some (.inr best102))
def M_deeds (d1 : Int32) (what2 : Int32) (m3 : MI) : Option (Int32 × MI) :=
  (stF m3 62 10 0).bind fun m4 =>
  ((M_in what2.toInt64 0 1).bind fun b193 =>
  if b193 then ((M_wrongBytes d1 m4).bind fun r197 =>
  some (decide (r197 < 0))) else (some true)).bind fun c7 =>
  if c7 then
  (((M_in what2.toInt64 0 1).bind fun b16 =>
  if b16 then
  ((M_wrongBytes d1 m4).bind fun r20 =>
  some r20)
  else
  (some (-1)) : Option (Int32)).bind fun x12 =>
  some (x12, m4))
  else
  ((ldA 8 m4 89 d1).bind fun x26 =>
  (some (x26 / 3) : Option Int32).bind fun n29 =>
  ((ldA 8 m4 89 d1).bind fun x38 =>
  if (rm32 x38 3) = 0 then (some (decide (n29 ≤ 8))) else (some false)).bind fun c32 =>
  (lp (M_deeds_s1 n29 d1 m4) FUEL (c32, 0)).bind fun good49 =>
  if good49 then
  ((some ((1 <<< (n29 &&& 31)) - 1) : Option Int32).bind fun best95 =>
  (lp (M_deeds_s2 n29 d1 m4) FUEL (best95, 0)).bind fun best104 =>
  (if what2 = 0 then
  (some best104)
  else
  ((M_ones best104).bind fun r189 =>
  some r189) : Option (Int32)).bind fun x183 =>
  some (x183, m4))
  else
  (some ((-13), m4)))
def M_lots_s1 : Int32 × Int32 × MI → Option ((Int32 × Int32 × MI) ⊕ (Int32 × MI)) := fun (seed18, f19, m20) =>
  if f19 < (m20.1 62 0) then
  (((ldA 6 m20 68 f19).bind fun x30 =>
  if x30 = 0 then
  ((some ((seed18 * 1103515245) + 12345) : Option Int32).bind fun seed34 =>
  (rmO ((seed34 &&& 2147483647) / 65536) ((m20.1 62 5) + 1)).bind fun q37 =>
  (if q37 = (m20.1 62 5) then
  (some 0)
  else
  (some (q37 + 1)) : Option (Int32)).bind fun x40 =>
  (stA 6 m20 69 f19 x40).bind fun m46 =>
  ((M_isFine m46).bind fun b53 =>
  if b53 then
  ((ldA 6 m46 69 f19).bind fun x57 =>
  some x57)
  else
  (some 0) : Option (Int32)).bind fun x49 =>
  (stA 6 m46 69 f19 x49).bind fun m61 =>
  some (seed34, m61))
  else
  (some (seed18, m20)) : Option (Int32 × MI)).bind fun (seed27, m28) =>
  (some (f19 + 1) : Option Int32).bind fun i66 =>
  some (.inl (seed27, i66, m28)))
  else
  (some (.inr (seed18, m20)))
def M_lots_s2 (m22 : MI) : Int32 × Int32 → Option ((Int32 × Int32) ⊕ (Int32)) := fun (n75, f76) =>
  if f76 < (m22.1 62 0) then
  (((ldA 6 m22 69 f76).bind fun x83 =>
  if 0 < x83 then
  (some 1)
  else
  (some 0) : Option (Int32)).bind fun x79 =>
  (some (n75 + x79) : Option Int32).bind fun n88 =>
  (some (f76 + 1) : Option Int32).bind fun i91 =>
  some (.inl (n88, i91)))
  else
  (some (.inr n75))
def M_lots (z1 : Int32) (what2 : Int32) (m3 : MI) : Option (Int32 × MI) :=
  (stF m3 62 10 0).bind fun m4 =>
  (M_in what2.toInt64 0 1).bind fun b7 =>
  if b7 then
  ((M_takeNow m4).bind fun m11 =>
  (lp (M_lots_s1) FUEL (z1, 0, m11)).bind fun (seed21, m22) =>
  (lp (M_lots_s2 m22) FUEL (0, 0)).bind fun n77 =>
  (if what2 = 0 then
  (some n77)
  else
  ((M_worthOfAll m22).bind fun r102 =>
  some r102) : Option (Int32)).bind fun x96 =>
  some (x96, m22))
  else
  (some ((-1), m4))
def M_image (m1 : MI) : Option (Int32 × MI) :=
  (stF m1 62 10 0).bind fun m2 =>
  (stZ m2 62 37 true).bind fun m5 =>
  (M_carryTo 83 true m5).bind fun m8 =>
  some ((m8.1 62 0), m8)
def M_restore (m1 : MI) : Option (Int32 × MI) :=
  (stF m1 62 10 0).bind fun m2 =>
  (ldZ m2 62 37).bind fun b5 =>
  if b5 then
  ((M_carryTo 83 false m2).bind fun m9 =>
  some ((m9.1 62 0), m9))
  else
  (some ((-3), m2))
def M_touches_s2 (a8 : Int32) (m2 : MI) (t1 : Int32) : Int32 × Int32 → Option ((Int32 × Int32) ⊕ (Int32)) := fun (n15, b16) =>
  if b16 < a8 then
  (((ldA 36 m2 64 ((6 * a8) + b16)).bind fun x23 =>
  if x23 = t1 then
  (some 1)
  else
  (some 0) : Option (Int32)).bind fun x19 =>
  (some (n15 + x19) : Option Int32).bind fun n28 =>
  (some (b16 + 1) : Option Int32).bind fun i31 =>
  some (.inl (n28, i31)))
  else
  (some (.inr n15))
def M_touches_s1 (m2 : MI) (t1 : Int32) : Int32 × Int32 → Option ((Int32 × Int32) ⊕ (Int32)) := fun (n7, a8) =>
  if a8 < (m2.1 62 0) then
  ((lp (M_touches_s2 a8 m2 t1) FUEL (n7, 0)).bind fun n17 =>
  (some (a8 + 1) : Option Int32).bind fun i36 =>
  some (.inl (n17, i36)))
  else
  (some (.inr n7))
def M_touches (t1 : Int32) (m2 : MI) : Option (Int32) :=
  (lp (M_touches_s1 m2 t1) FUEL (0, 0)).bind fun n9 =>
  some n9
def M_sumOf_s1 (m2 : MI) (what1 : Int32) : Int32 × Int32 → Option ((Int32 × Int32) ⊕ (Int32)) := fun (sum7, f8) =>
  if f8 < (m2.1 62 0) then
  ((if what1 = 2 then
  ((ldA 6 m2 63 f8).bind fun x16 =>
  some x16)
  else
  (((if what1 = 3 then ((ldA 6 m2 68 f8).bind fun x32 =>
  some (decide (0 < x32))) else (some false)).bind fun c24 =>
  if c24 then
  (some 1)
  else
  (some 0) : Option (Int32)).bind fun x20 =>
  some x20) : Option (Int32)).bind fun x11 =>
  (some (sum7 + x11) : Option Int32).bind fun sum36 =>
  (some (f8 + 1) : Option Int32).bind fun i39 =>
  some (.inl (sum36, i39)))
  else
  (some (.inr sum7))
def M_sumOf_s2 (m2 : MI) (what1 : Int32) : Int32 × Int32 → Option ((Int32 × Int32) ⊕ (Int32)) := fun (sum48, p49) =>
  if p49 < (m2.1 62 5) then
  ((if what1 = 7 then
  ((ldA 3 m2 65 p49).bind fun x57 =>
  some x57)
  else
  (some 0) : Option (Int32)).bind fun x52 =>
  (some (sum48 + x52) : Option Int32).bind fun sum61 =>
  (some (p49 + 1) : Option Int32).bind fun i64 =>
  some (.inl (sum61, i64)))
  else
  (some (.inr sum48))
def M_sumOf (what1 : Int32) (m2 : MI) : Option (Int32) :=
  (lp (M_sumOf_s1 m2 what1) FUEL (0, 0)).bind fun sum9 =>
  (lp (M_sumOf_s2 m2 what1) FUEL (sum9, 0)).bind fun sum50 =>
  some sum50
def M_count (what1 : Int32) (m2 : MI) : Option (Int32 × MI) :=
  (stF m2 62 10 0).bind fun m3 =>
  if what1 = 0 then
  (some ((m3.1 62 0), m3))
  else
  (if what1 = 1 then
  (some ((m3.1 62 5), m3))
  else
  (if what1 = 2 then
  ((M_sumOf what1 m3).bind fun r11 =>
  some (r11, m3))
  else
  (if what1 = 3 then
  ((M_sumOf what1 m3).bind fun r16 =>
  some (r16, m3))
  else
  (if what1 = 4 then
  ((M_touches 1 m3).bind fun r21 =>
  (M_touches 2 m3).bind fun r24 =>
  some ((r21 + r24), m3))
  else
  (if what1 = 5 then
  ((M_touches 2 m3).bind fun r29 =>
  some (r29, m3))
  else
  (if what1 = 6 then
  ((M_touches 3 m3).bind fun r34 =>
  some (r34, m3))
  else
  (if what1 = 7 then
  ((M_sumOf what1 m3).bind fun r39 =>
  some (r39, m3))
  else
  (some ((-1), m3)))))))))
def M_keep (d1 : Int32) (what2 : Int32) (k3 : Int32) (wfog4 : Int32) (m5 : MI) : Option (Int32 × MI) :=
  (stF m5 62 10 0).bind fun m6 =>
  ((M_in d1.toInt64 0 7).bind fun b25 =>
  if b25 then ((M_in what2.toInt64 0 1).bind fun b29 =>
  if b29 then (if what2 = 1 then ((M_in k3.toInt64 0 7).bind fun b34 =>
  if b34 then ((M_in wfog4.toInt64 0 9999).bind fun b38 =>
  some (!b38)) else (some true)) else (some false)) else (some true)) else (some true)).bind fun c9 =>
  if c9 then
  (some ((-1), m6))
  else
  ((stA 8 m6 85 d1 what2).bind fun m16 =>
  (stA 8 m16 86 d1 k3).bind fun m19 =>
  (stA 8 m19 87 d1 wfog4).bind fun m22 =>
  some (0, m22))
def M_narrowed (v1 : Int32) (s2 : Int32) : Option (Int64) :=
  (if s2 = 0 then
  (some (((v1.toInt8.toInt32)).toInt64))
  else
  ((if s2 = 1 then
  (some (((v1.toInt16.toInt32)).toInt64))
  else
  (some v1.toInt64) : Option (Int64)).bind fun x9 =>
  some x9) : Option (Int64)).bind fun x3 =>
  some x3
def M_row_s1 (d1 : Int32) : Int32 × MI → Option ((Int32 × MI) ⊕ (MI)) := fun (i30, m31) =>
  if i30 < 100 then
  ((stL 800 m31 90 ((100 * d1) + i30) 0).bind fun m34 =>
  (some (i30 + 1) : Option Int32).bind fun i37 =>
  some (.inl (i37, m34)))
  else
  (some (.inr m31))
def M_row (d1 : Int32) (s2 : Int32) (n3 : Int32) (m4 : MI) : Option (Int32 × MI) :=
  (stF m4 62 10 0).bind fun m5 =>
  ((M_in d1.toInt64 0 7).bind fun b42 =>
  if b42 then ((M_in s2.toInt64 0 2).bind fun b46 =>
  if b46 then (some (decide (100 < n3))) else (some true)) else (some true)).bind fun c8 =>
  if c8 then
  (some ((-1), m5))
  else
  (if n3 < 0 then
  (some ((-14), m5))
  else
  ((stA 8 m5 85 d1 2).bind fun m17 =>
  (stA 8 m17 88 d1 s2).bind fun m20 =>
  (stA 8 m20 89 d1 n3).bind fun m23 =>
  (lp (M_row_s1 d1) FUEL (0, m23)).bind fun m32 =>
  some (0, m32)))
def M_put (d1 : Int32) (i2 : Int32) (v3 : Int32) (m4 : MI) : Option (Int32 × MI) :=
  (stF m4 62 10 0).bind fun m5 =>
  (M_wrongRow d1 m5).bind fun r8 =>
  if r8 < 0 then
  (some (r8, m5))
  else
  ((ldA 8 m5 89 d1).bind fun x13 =>
  (M_in i2.toInt64 0 (((x13 - 1)).toInt64)).bind fun b16 =>
  if b16 then
  ((ldA 8 m5 88 d1).bind fun x20 =>
  (M_narrowed v3 x20).bind fun r23 =>
  (stL 800 m5 90 ((100 * d1) + i2) r23).bind fun m26 =>
  some (0, m26))
  else
  (some ((-13), m5)))
def M_element (d1 : Int32) (i2 : Int32) (m3 : MI) : Option (Int64 × MI) :=
  (M_wrongRow d1 m3).bind fun r4 =>
  (if r4 = (-1) then
  (some 1)
  else
  (((if r4 < 0 then (some true) else ((ldA 8 m3 89 d1).bind fun x26 =>
  (M_in i2.toInt64 0 (((x26 - 1)).toInt64)).bind fun b29 =>
  some (!b29))).bind fun c17 =>
  if c17 then
  (some 2)
  else
  (some 0) : Option (Int32)).bind fun x13 =>
  some x13) : Option (Int32)).bind fun x7 =>
  (stF m3 62 10 x7).bind fun m32 =>
  (if 0 < (m32.1 62 10) then
  (some 0)
  else
  ((ldL 800 m32 90 ((100 * d1) + i2)).bind fun x41 =>
  some x41) : Option (Int64)).bind fun x35 =>
  some (x35, m32)
def M_copy_s1 (n5 : Int32) (d1 : Int32) (i2 : Int32) : Int32 × MI → Option ((Int32 × MI) ⊕ (MI)) := fun (k42, m43) =>
  if k42 < n5 then
  ((ldL 800 m43 90 (((100 * d1) + i2) + k42)).bind fun x46 =>
  (stL 100 m43 91 k42 x46).bind fun m49 =>
  (some (k42 + 1) : Option Int32).bind fun i52 =>
  some (.inl (i52, m49)))
  else
  (some (.inr m43))
def M_copy_s2 (n5 : Int32) (e3 : Int32) (j4 : Int32) : Int32 × MI → Option ((Int32 × MI) ⊕ (MI)) := fun (k61, m62) =>
  if k61 < n5 then
  ((ldL 100 m62 91 k61).bind fun x65 =>
  (stL 800 m62 90 (((100 * e3) + j4) + k61) x65).bind fun m68 =>
  (some (k61 + 1) : Option Int32).bind fun i71 =>
  some (.inl (i71, m68)))
  else
  (some (.inr m62))
def M_copy (d1 : Int32) (i2 : Int32) (e3 : Int32) (j4 : Int32) (n5 : Int32) (m6 : MI) : Option (Int32 × MI) :=
  (stF m6 62 10 0).bind fun m7 =>
  ((M_in d1.toInt64 0 7).bind fun b114 =>
  if b114 then ((M_in e3.toInt64 0 7).bind fun b118 =>
  some (!b118)) else (some true)).bind fun c10 =>
  if c10 then
  (some ((-1), m7))
  else
  (((ldA 8 m7 85 d1).bind fun x106 =>
  if x106 = 0 then (some true) else ((ldA 8 m7 85 e3).bind fun x111 =>
  some (decide (x111 = 0)))).bind fun c17 =>
  if c17 then
  (some ((-11), m7))
  else
  (((ldA 8 m7 85 d1).bind fun x90 =>
  if x90 ≠ 2 then (some true) else ((ldA 8 m7 85 e3).bind fun x95 =>
  if x95 ≠ 2 then (some true) else ((ldA 8 m7 88 d1).bind fun x100 =>
  (ldA 8 m7 88 e3).bind fun x103 =>
  some (decide (x100 ≠ x103))))).bind fun c24 =>
  if c24 then
  (some ((-12), m7))
  else
  ((if n5 < 0 then (some true) else (if i2 < 0 then (some true) else (if j4 < 0 then (some true) else ((ldA 8 m7 89 d1).bind fun x82 =>
  if (x82 - n5) < i2 then (some true) else ((ldA 8 m7 89 e3).bind fun x87 =>
  some (decide ((x87 - n5) < j4))))))).bind fun c31 =>
  if c31 then
  (some ((-13), m7))
  else
  ((lp (M_copy_s1 n5 d1 i2) FUEL (0, m7)).bind fun m44 =>
  (lp (M_copy_s2 n5 e3 j4) FUEL (0, m44)).bind fun m63 =>
  some (n5, m63)))))
def M_feeOf (d1 : Int32) (m2 : MI) : Option (Int32) :=
  (ldA 8 m2 87 d1).bind fun x3 =>
  (some (rm32 x3 10) : Option Int32).bind fun f6 =>
  (ldA 8 m2 86 d1).bind fun x9 =>
  if x9 = 1 then
  (some (2 + f6))
  else
  (if x9 = 2 then
  (some 6)
  else
  (if x9 = 3 then
  (some 7)
  else
  (if x9 = 4 then
  (some (4 + (2 * f6)))
  else
  (if x9 = 5 then
  (some 9)
  else
  (if x9 = 6 then
  (some 0)
  else
  (some 2))))))
def M_fee (d1 : Int32) (m2 : MI) : Option (Int32 × MI) :=
  (stF m2 62 10 0).bind fun m3 =>
  ((M_wrongMove d1 m3).bind fun r10 =>
  if r10 < 0 then
  ((M_wrongMove d1 m3).bind fun r14 =>
  some r14)
  else
  ((M_feeOf d1 m3).bind fun r18 =>
  some r18) : Option (Int32)).bind fun x6 =>
  some (x6, m3)
def M_toss (d1 : Int32) (m2 : MI) : Option (Int32 × MI) :=
  (stF m2 62 10 0).bind fun m3 =>
  (M_wrongMove d1 m3).bind fun r6 =>
  if r6 < 0 then
  ((M_wrongMove d1 m3).bind fun r10 =>
  some (r10, m3))
  else
  ((ldA 8 m3 87 d1).bind fun x14 =>
  (some (rm32 x14 10) : Option Int32).bind fun f17 =>
  ((ldA 8 m3 86 d1).bind fun x48 =>
  if x48 = 6 then (some true) else (some (decide (f17 = 0)))).bind fun c20 =>
  if c20 then
  (some ((-15), m3))
  else
  (((ldA 8 m3 86 d1).bind fun x31 =>
  if x31 = 3 then
  (some (100 + f17))
  else
  (((ldA 8 m3 86 d1).bind fun x40 =>
  if x40 = 7 then
  ((M_feeOf d1 m3).bind fun r44 =>
  some (200 + r44))
  else
  (some f17) : Option (Int32)).bind fun x36 =>
  some x36) : Option (Int32)).bind fun x27 =>
  some (x27, m3)))
