/-! ===== the pure side's words ===== -/
theorem ifP {P : Prop} [Decidable P] {α : Sort _} {a b r : α} (hp : P) (h : (if P then a else b) = r) : a = r := by rw [if_pos hp] at h; exact h
theorem ifN {P : Prop} [Decidable P] {α : Sort _} {a b r : α} (hp : ¬ P) (h : (if P then a else b) = r) : b = r := by rw [if_neg hp] at h; exact h
theorem ifT {b : Bool} {α : Sort _} {x y r : α} (hp : b = true) (h : (if b = true then x else y) = r) : x = r := ifP hp h
theorem ifF {b : Bool} {α : Sort _} {x y r : α} (hp : b = false) (h : (if b = true then x else y) = r) : y = r := by subst hp; exact h
theorem seL {α β γ : Type} {f : α → γ} {g : β → γ} {a : α} {r : γ} (h : Sum.elim f g (.inl a) = r) : f a = r := h
theorem seR {α β γ : Type} {f : α → γ} {g : β → γ} {a : β} {r : γ} (h : Sum.elim f g (.inr a) = r) : g a = r := h
/-- leaves of conditions -/
theorem cdT {P : Prop} [Decidable P] {c : Bool} (p : P) (h : some (decide P) = some c) : true = c := by rw [← oi h]; simp [p]
theorem cdF {P : Prop} [Decidable P] {c : Bool} (p : ¬ P) (h : some (decide P) = some c) : false = c := by rw [← oi h]; simp [p]
theorem cdnT {P : Prop} [Decidable P] {c : Bool} (p : P) (h : some (decide (¬ P)) = some c) : false = c := by rw [← oi h]; simp [p]
theorem cdnF {P : Prop} [Decidable P] {c : Bool} (p : ¬ P) (h : some (decide (¬ P)) = some c) : true = c := by rw [← oi h]; simp [p]
theorem cbT {b c : Bool} (p : b = true) (h : some b = some c) : true = c := by rw [← p]; exact oi h
theorem cbF {b c : Bool} (p : b = false) (h : some b = some c) : false = c := by rw [← p]; exact oi h
theorem cbnT {b c : Bool} (p : b = true) (h : some (!b) = some c) : false = c := by subst p; exact oi h
theorem cbnF {b c : Bool} (p : b = false) (h : some (!b) = some c) : true = c := by subst p; exact oi h
/-- the same where the memory goes along -/
theorem mdT {P : Prop} [Decidable P] {μ : MI} {o : Bool × MI} (p : P) (h : some (decide P, μ) = some o) : (true, μ) = o := by rw [← oi h]; simp [p]
theorem mdF {P : Prop} [Decidable P] {μ : MI} {o : Bool × MI} (p : ¬ P) (h : some (decide P, μ) = some o) : (false, μ) = o := by rw [← oi h]; simp [p]
theorem mdnT {P : Prop} [Decidable P] {μ : MI} {o : Bool × MI} (p : P) (h : some (decide (¬ P), μ) = some o) : (false, μ) = o := by rw [← oi h]; simp [p]
theorem mdnF {P : Prop} [Decidable P] {μ : MI} {o : Bool × MI} (p : ¬ P) (h : some (decide (¬ P), μ) = some o) : (true, μ) = o := by rw [← oi h]; simp [p]
theorem mbT {b : Bool} {μ : MI} {o : Bool × MI} (p : b = true) (h : some (b, μ) = some o) : (true, μ) = o := by rw [← p]; exact oi h
theorem mbF {b : Bool} {μ : MI} {o : Bool × MI} (p : b = false) (h : some (b, μ) = some o) : (false, μ) = o := by rw [← p]; exact oi h
theorem mbnT {b : Bool} {μ : MI} {o : Bool × MI} (p : b = true) (h : some (!b, μ) = some o) : (false, μ) = o := by subst p; exact oi h
theorem mbnF {b : Bool} {μ : MI} {o : Bool × MI} (p : b = false) (h : some (!b, μ) = some o) : (true, μ) = o := by subst p; exact oi h
/-- arrays, fields -/
def ldA (n : Nat) (μ : MI) (a : Nat) (i : Int32) : Option Int32 := if 0 ≤ i ∧ i.toNatClampNeg < n then some (μ.1 a i.toNatClampNeg) else none
def ldL (n : Nat) (μ : MI) (a : Nat) (i : Int32) : Option Int64 := if 0 ≤ i ∧ i.toNatClampNeg < n then some (μ.2 a i.toNatClampNeg) else none
def bof (x : Int32) : Option Bool := if x = 0 then some false else if x = 1 then some true else none
def ldB (n : Nat) (μ : MI) (a : Nat) (i : Int32) : Option Bool := if 0 ≤ i ∧ i.toNatClampNeg < n then bof (μ.1 a i.toNatClampNeg) else none
def ldZ (μ : MI) (a j : Nat) : Option Bool := bof (μ.1 a j)
def stA (n : Nat) (μ : MI) (a : Nat) (i x : Int32) : Option MI := if 0 ≤ i ∧ i.toNatClampNeg < n then some (si μ a i.toNatClampNeg x) else none
def stB (n : Nat) (μ : MI) (a : Nat) (i : Int32) (b : Bool) : Option MI := if 0 ≤ i ∧ i.toNatClampNeg < n then some (si μ a i.toNatClampNeg (bI b)) else none
def stL (n : Nat) (μ : MI) (a : Nat) (i : Int32) (x : Int64) : Option MI := if 0 ≤ i ∧ i.toNatClampNeg < n then some (sl μ a i.toNatClampNeg x) else none
def stF (μ : MI) (a j : Nat) (x : Int32) : Option MI := some (si μ a j x)
def stZ (μ : MI) (a j : Nat) (b : Bool) : Option MI := some (si μ a j (bI b))
def dv (x y : Int32) : Option Int32 := if y = 0 then none else some (x / y)
def rmO (x y : Int32) : Option Int32 := if y = 0 then none else some (rm32 x y)
def mx (x y : Int32) : Int32 := if x < y then y else x
def mn (x y : Int32) : Int32 := if y < x then y else x
def acp (na nb : Nat) (μ : MI) (a : Nat) (sp : Int32) (b : Nat) (dp len : Int32) : Option MI :=
  if 0 ≤ sp ∧ 0 ≤ dp ∧ 0 ≤ len ∧ sp.toNatClampNeg + len.toNatClampNeg ≤ na ∧ dp.toNatClampNeg + len.toNatClampNeg ≤ nb then some (sa μ b (va_cpy (μ.1 a) (μ.1 b) sp.toNatClampNeg dp.toNatClampNeg len.toNatClampNeg)) else none
theorem ldA_in {n μ a i v} (h : ldA n μ a i = some v) : (0 ≤ i ∧ i.toNatClampNeg < n) ∧ μ.1 a i.toNatClampNeg = v := by
  unfold ldA at h; split at h
  · exact ⟨by assumption, oi h⟩
  · cases h
theorem ldL_in {n μ a i v} (h : ldL n μ a i = some v) : (0 ≤ i ∧ i.toNatClampNeg < n) ∧ μ.2 a i.toNatClampNeg = v := by
  unfold ldL at h; split at h
  · exact ⟨by assumption, oi h⟩
  · cases h
theorem bof_eq {x : Int32} {b : Bool} (h : bof x = some b) : x = bI b := by
  unfold bof at h; split at h
  · cases h; assumption
  · split at h
    · cases h; assumption
    · cases h
theorem ldB_in {n μ a i v} (h : ldB n μ a i = some v) : (0 ≤ i ∧ i.toNatClampNeg < n) ∧ μ.1 a i.toNatClampNeg = bI v := by
  unfold ldB at h; split at h
  · exact ⟨by assumption, bof_eq h⟩
  · cases h
theorem stA_in {n μ a i x μ'} (h : stA n μ a i x = some μ') : (0 ≤ i ∧ i.toNatClampNeg < n) ∧ si μ a i.toNatClampNeg x = μ' := by
  unfold stA at h; split at h
  · exact ⟨by assumption, oi h⟩
  · cases h
theorem stB_in {n μ a i x μ'} (h : stB n μ a i x = some μ') : (0 ≤ i ∧ i.toNatClampNeg < n) ∧ si μ a i.toNatClampNeg (bI x) = μ' := by
  unfold stB at h; split at h
  · exact ⟨by assumption, oi h⟩
  · cases h
theorem stL_in {n μ a i x μ'} (h : stL n μ a i x = some μ') : (0 ≤ i ∧ i.toNatClampNeg < n) ∧ sl μ a i.toNatClampNeg x = μ' := by
  unfold stL at h; split at h
  · exact ⟨by assumption, oi h⟩
  · cases h
theorem dv_in {x y v} (h : dv x y = some v) : ¬ y = 0 ∧ x / y = v := by
  unfold dv at h; split at h
  · cases h
  · exact ⟨by assumption, oi h⟩
theorem rmO_in {x y v} (h : rmO x y = some v) : ¬ y = 0 ∧ rm32 x y = v := by
  unfold rmO at h; split at h
  · cases h
  · exact ⟨by assumption, oi h⟩
/-- loops: a step goes on or comes out -/
def lp {σ ρ : Type} (step : σ → Option (σ ⊕ ρ)) : Nat → σ → Option ρ
  | 0, _ => none
  | n + 1, s => match step s with
    | none => none
    | some (.inl s') => lp step n s'
    | some (.inr r) => some r
def FUEL : Nat := 50000
theorem lp_walk {σ ρ : Type} {step : σ → Option (σ ⊕ ρ)} {P : σ → Prop} {o : ρ} (hs : ∀ s x, step s = some x → (∀ s', x = .inl s' → P s') → (∀ o', x = .inr o' → o' = o) → P s) : ∀ (n : Nat) (s : σ), lp step n s = some o → P s
  | 0, s, h => by simp [lp] at h
  | n + 1, s, h => by
    unfold lp at h
    cases hx : step s with
    | none => rw [hx] at h; cases h
    | some x =>
      rw [hx] at h
      refine hs s x hx (fun s' e => ?_) (fun o' e => ?_)
      · subst e; exact lp_walk hs n s' h
      · subst e; exact oi h
theorem GX_ldA {Γ : GT} {cc : ByteArray} {own : String} {L : LY} {d nL0 k n : Nat} {lv : List (Option Value)} {st : List Value} {μ : MI} {pc : Nat} (hC : CX Γ cc own L d nL0) {a N : Nat} {i : Int32} {v : Int32} {r : List (Option Nat)} (hv : ldA N μ a i = some v) (hcell : L[a]? = some (.inr (0, N, r))) (hd : decode cc pc = .ok (.iaload, 1)) (kk : GX Γ L k n lv (.int v :: st) μ (pc + 1)) : GX Γ L k n lv (.int i :: .ref (gad Γ a) :: st) μ pc := by
  obtain ⟨h1, h2⟩ := ldA_in hv
  exact GX_iald hC hcell h1 hd (by rw [h2]; exact kk)
theorem GX_ldL {Γ : GT} {cc : ByteArray} {own : String} {L : LY} {d nL0 k n : Nat} {lv : List (Option Value)} {st : List Value} {μ : MI} {pc : Nat} (hC : CX Γ cc own L d nL0) {a N : Nat} {i : Int32} {v : Int64} {r : List (Option Nat)} (hv : ldL N μ a i = some v) (hcell : L[a]? = some (.inr (2, N, r))) (hd : decode cc pc = .ok (.laload, 1)) (kk : GX Γ L k n lv (.long v :: st) μ (pc + 1)) : GX Γ L k n lv (.int i :: .ref (gad Γ a) :: st) μ pc := by
  obtain ⟨h1, h2⟩ := ldL_in hv
  exact GX_lald hC hcell h1 hd (by rw [h2]; exact kk)
theorem GX_ldB {Γ : GT} {cc : ByteArray} {own : String} {L : LY} {d nL0 k n : Nat} {lv : List (Option Value)} {st : List Value} {μ : MI} {pc : Nat} (hC : CX Γ cc own L d nL0) {a N : Nat} {i : Int32} {v : Bool} {r : List (Option Nat)} (hv : ldB N μ a i = some v) (hcell : L[a]? = some (.inr (1, N, r))) (hd : decode cc pc = .ok (.baload, 1)) (kk : GX Γ L k n lv (.int (bI v) :: st) μ (pc + 1)) : GX Γ L k n lv (.int i :: .ref (gad Γ a) :: st) μ pc := by
  obtain ⟨h1, h2⟩ := ldB_in hv
  exact GX_zald hC hcell h1 hd (by rw [h2]; exact kk)
theorem GX_ldZ {Γ : GT} {cc : ByteArray} {own : String} {L : LY} {d nL0 k n : Nat} {lv : List (Option Value)} {st : List Value} {μ : MI} {pc : Nat} (hC : CX Γ cc own L d nL0) {a ix ci j : Nat} {b : Bool} {s : List (Option (Option Nat))} (hv : ldZ μ a j = some b) (hf : fOK own ix ci j) (hcell : L[a]? = some (.inl (ci, s))) (hs : s[j]? = some none) (hd : decode cc pc = .ok (.getfield ix, 3)) (kk : GX Γ L k n lv (.int (bI b) :: st) μ (pc + 3)) : GX Γ L k n lv (.ref (gad Γ a) :: st) μ pc :=
  GX_getI hC hf hcell hs hd (GX_nm (bof_eq hv) kk)
theorem GX_stF {Γ : GT} {cc : ByteArray} {own : String} {L : LY} {d nL0 k n : Nat} {lv : List (Option Value)} {st : List Value} {μ : MI} {pc : Nat} (hC : CX Γ cc own L d nL0) {a ix ci j : Nat} {x : Int32} {μ' : MI} {s : List (Option (Option Nat))} (hv : stF μ a j x = some μ') (hf : fOK own ix ci j) (hty : fTy ci j .int) (hcell : L[a]? = some (.inl (ci, s))) (hs : s[j]? = some none) (hd : decode cc pc = .ok (.putfield ix, 3)) (kk : GX Γ L k n lv st μ' (pc + 3)) : GX Γ L k n lv (.int x :: .ref (gad Γ a) :: st) μ pc := by
  have h := oi hv
  exact GX_putI hC hf hty hcell hs hd (by rw [h]; exact kk)
theorem GX_stZ {Γ : GT} {cc : ByteArray} {own : String} {L : LY} {d nL0 k n : Nat} {lv : List (Option Value)} {st : List Value} {μ : MI} {pc : Nat} (hC : CX Γ cc own L d nL0) {a ix ci j : Nat} {x : Bool} {μ' : MI} {s : List (Option (Option Nat))} (hv : stZ μ a j x = some μ') (hf : fOK own ix ci j) (hty : fTy ci j .boolean) (hcell : L[a]? = some (.inl (ci, s))) (hs : s[j]? = some none) (hd : decode cc pc = .ok (.putfield ix, 3)) (kk : GX Γ L k n lv st μ' (pc + 3)) : GX Γ L k n lv (.int (bI x) :: .ref (gad Γ a) :: st) μ pc := by
  have h := oi hv
  exact GX_putZ hC hf hty hcell hs hd (by rw [h]; exact kk)
theorem GX_stA {Γ : GT} {cc : ByteArray} {own : String} {L : LY} {d nL0 k n : Nat} {lv : List (Option Value)} {st : List Value} {μ : MI} {pc : Nat} (hC : CX Γ cc own L d nL0) {a N : Nat} {i : Int32} {x : Int32} {μ' : MI} {r : List (Option Nat)} (hv : stA N μ a i x = some μ') (hcell : L[a]? = some (.inr (0, N, r))) (hd : decode cc pc = .ok (.iastore, 1)) (kk : GX Γ L k n lv st μ' (pc + 1)) : GX Γ L k n lv (.int x :: .int i :: .ref (gad Γ a) :: st) μ pc := by
  obtain ⟨h1, h2⟩ := stA_in hv
  exact GX_iast hC hcell h1 hd (by rw [h2]; exact kk)
theorem GX_stB {Γ : GT} {cc : ByteArray} {own : String} {L : LY} {d nL0 k n : Nat} {lv : List (Option Value)} {st : List Value} {μ : MI} {pc : Nat} (hC : CX Γ cc own L d nL0) {a N : Nat} {i : Int32} {x : Bool} {μ' : MI} {r : List (Option Nat)} (hv : stB N μ a i x = some μ') (hcell : L[a]? = some (.inr (1, N, r))) (hd : decode cc pc = .ok (.bastore, 1)) (kk : GX Γ L k n lv st μ' (pc + 1)) : GX Γ L k n lv (.int (bI x) :: .int i :: .ref (gad Γ a) :: st) μ pc := by
  obtain ⟨h1, h2⟩ := stB_in hv
  exact GX_zast hC hcell h1 hd (by rw [h2]; exact kk)
theorem GX_stL {Γ : GT} {cc : ByteArray} {own : String} {L : LY} {d nL0 k n : Nat} {lv : List (Option Value)} {st : List Value} {μ : MI} {pc : Nat} (hC : CX Γ cc own L d nL0) {a N : Nat} {i : Int32} {x : Int64} {μ' : MI} {r : List (Option Nat)} (hv : stL N μ a i x = some μ') (hcell : L[a]? = some (.inr (2, N, r))) (hd : decode cc pc = .ok (.lastore, 1)) (kk : GX Γ L k n lv st μ' (pc + 1)) : GX Γ L k n lv (.long x :: .int i :: .ref (gad Γ a) :: st) μ pc := by
  obtain ⟨h1, h2⟩ := stL_in hv
  exact GX_last hC hcell h1 hd (by rw [h2]; exact kk)
theorem GX_dv {Γ : GT} {cc : ByteArray} {own : String} {L : LY} {d nL0 k n : Nat} {lv : List (Option Value)} {st : List Value} {μ : MI} {pc : Nat} (hC : CX Γ cc own L d nL0) {x y v : Int32} (hv : dv x y = some v) (hd : decode cc pc = .ok (.idiv, 1)) (kk : GX Γ L k n lv (.int v :: st) μ (pc + 1)) : GX Γ L k n lv (.int y :: .int x :: st) μ pc := by
  obtain ⟨h1, h2⟩ := dv_in hv
  exact GX_idiv hC hd h1 (by rw [h2]; exact kk)
theorem GX_rmO {Γ : GT} {cc : ByteArray} {own : String} {L : LY} {d nL0 k n : Nat} {lv : List (Option Value)} {st : List Value} {μ : MI} {pc : Nat} (hC : CX Γ cc own L d nL0) {x y v : Int32} (hv : rmO x y = some v) (hd : decode cc pc = .ok (.irem, 1)) (kk : GX Γ L k n lv (.int v :: st) μ (pc + 1)) : GX Γ L k n lv (.int y :: .int x :: st) μ pc := by
  obtain ⟨h1, h2⟩ := rmO_in hv
  exact GX_irem hC hd h1 (by rw [h2]; exact kk)
theorem GX_mx {Γ : GT} {cc : ByteArray} {own : String} {L : LY} {d nL0 k n : Nat} {lv : List (Option Value)} {st : List Value} {μ : MI} {pc : Nat} (hC : CX Γ cc own L d nL0) {ix : Nat} {x y : Int32} (hm : mth_max own ix) (h1 : 1 ≤ d) (hk : kX Γ k n) (hs : (st.map fun v => v.category).sum ≤ 20) (hd : decode cc pc = .ok (.invokestatic ix, 3)) (kk : GX Γ L k n lv (.int (mx x y) :: st) μ (pc + 3)) : GX Γ L k n lv (.int y :: .int x :: st) μ pc := GX_max hC hm h1 hk hs hd kk
theorem GX_mn {Γ : GT} {cc : ByteArray} {own : String} {L : LY} {d nL0 k n : Nat} {lv : List (Option Value)} {st : List Value} {μ : MI} {pc : Nat} (hC : CX Γ cc own L d nL0) {ix : Nat} {x y : Int32} (hm : mth_min own ix) (h1 : 1 ≤ d) (hk : kX Γ k n) (hs : (st.map fun v => v.category).sum ≤ 20) (hd : decode cc pc = .ok (.invokestatic ix, 3)) (kk : GX Γ L k n lv (.int (mn x y) :: st) μ (pc + 3)) : GX Γ L k n lv (.int y :: .int x :: st) μ pc := GX_min hC hm h1 hk hs hd kk
theorem GX_acp {Γ : GT} {cc : ByteArray} {own : String} {L : LY} {d nL0 k n : Nat} {lv : List (Option Value)} {st : List Value} {μ : MI} {pc : Nat} (hC : CX Γ cc own L d nL0) {ix a b na nb : Nat} {ra rb : List (Option Nat)} {sp dp len : Int32} {μ' : MI} (hv : acp na nb μ a sp b dp len = some μ') (hm : acpOK own ix) (h1 : 1 ≤ d) (ha : L[a]? = some (.inr (0, na, ra))) (hbb : L[b]? = some (.inr (0, nb, rb))) (hs : (st.map fun v => v.category).sum ≤ 8) (hd : decode cc pc = .ok (.invokestatic ix, 3)) (kk : GX Γ L k n lv st μ' (pc + 3)) : GX Γ L k n lv (.int len :: .int dp :: .ref (gad Γ b) :: .int sp :: .ref (gad Γ a) :: st) μ pc := by
  unfold acp at hv; split at hv
  · rename_i h
    obtain ⟨q1, q2, q3, q4, q5⟩ := h
    have h := oi hv
    exact GX_acopy hC hm h1 ha hbb q1 q2 q3 q4 q5 hs hd (by rw [h]; exact kk)
  · cases hv
/-- a number by another name, in a local -/
theorem sw_ne {x k : Int32} {z : Int} (h : ¬ x = k) (hk : k.toInt = z) : x.toInt ≠ z := fun q => h (Int32.toInt_inj.mp (q.trans hk.symm))
theorem GX_nml {Γ L k n lv st μ pc} {x y : Int64} (h : x = y) (hG : GX Γ L k n lv (.long y :: st) μ pc) : GX Γ L k n lv (.long x :: st) μ pc := h ▸ hG
theorem GX_nmb {Γ L k n lv st μ pc} {x y : Bool} (h : x = y) (hG : GX Γ L k n lv (.int (bI y) :: st) μ pc) : GX Γ L k n lv (.int (bI x) :: st) μ pc := h ▸ hG
theorem GX_aload_nN {Γ : GT} {cc : ByteArray} {own : String} {L : LY} {d nL0 k n : Nat} {lv : List (Option Value)} {st : List Value} {μ : MI} {pc : Nat} (hC : CX Γ cc own L d nL0) {z : Fin 4} (hd : decode cc pc = .ok (.aload_n z, 1)) (h : lv[(z : Nat)]? = some (some .null)) (kk : GX Γ L k n lv (.null :: st) μ (pc + 1)) : GX Γ L k n lv st μ pc := by
  obtain ⟨p, l, e, R, s, m, args, below, meth, c, Q, H0, dC, dI, Y, ad, A, nL⟩ := Γ
  obtain ⟨hx, hb, hml, hown, hts, hK, hA, hd1, hd2, hnl⟩ := hC
  intro H locs ls hP hS hl
  exact lv_aload_nN hx hb hd rfl (hl.at h) (kk H locs ls hP hS hl)
theorem GX_aloadN {Γ : GT} {cc : ByteArray} {own : String} {L : LY} {d nL0 k n : Nat} {lv : List (Option Value)} {st : List Value} {μ : MI} {pc : Nat} (hC : CX Γ cc own L d nL0) {z : Nat} (hd : decode cc pc = .ok (.aload z, 2)) (h : lv[z]? = some (some .null)) (kk : GX Γ L k n lv (.null :: st) μ (pc + 2)) : GX Γ L k n lv st μ pc := by
  obtain ⟨p, l, e, R, s, m, args, below, meth, c, Q, H0, dC, dI, Y, ad, A, nL⟩ := Γ
  obtain ⟨hx, hb, hml, hown, hts, hK, hA, hd1, hd2, hnl⟩ := hC
  intro H locs ls hP hS hl
  exact lv_aloadN hx hb hd (hl.at h) (kk H locs ls hP hS hl)
theorem GX_astore_nN {Γ : GT} {cc : ByteArray} {own : String} {L : LY} {d nL0 k n : Nat} {lv : List (Option Value)} {st : List Value} {μ : MI} {pc : Nat} (hC : CX Γ cc own L d nL0) {z : Fin 4} (lv' : List (Option Value)) (hd : decode cc pc = .ok (.astore_n z, 1)) (hn : (z : Nat) < nL0) (hok : lvOk lv z = true) (h : lv.set z (some .null) = lv') (kk : GX Γ L k n lv' st μ (pc + 1)) : GX Γ L k n lv (.null :: st) μ pc := by
  obtain ⟨p, l, e, R, s, m, args, below, meth, c, Q, H0, dC, dI, Y, ad, A, nL⟩ := Γ
  obtain ⟨hx, hb, hml, hown, hts, hK, hA, hd1, hd2, hnl⟩ := hC
  intro H locs ls hP hS hl
  subst h; subst hnl; exact lv_astore_nN hx hb hd rfl hl hn rfl (fun ls' hl' => kk H locs ls' hP hS (lvh_set hok hl'))
theorem GX_astoreN {Γ : GT} {cc : ByteArray} {own : String} {L : LY} {d nL0 k n : Nat} {lv : List (Option Value)} {st : List Value} {μ : MI} {pc : Nat} (hC : CX Γ cc own L d nL0) {z : Nat} (lv' : List (Option Value)) (hd : decode cc pc = .ok (.astore z, 2)) (hn : z < nL0) (hok : lvOk lv z = true) (h : lv.set z (some .null) = lv') (kk : GX Γ L k n lv' st μ (pc + 2)) : GX Γ L k n lv (.null :: st) μ pc := by
  obtain ⟨p, l, e, R, s, m, args, below, meth, c, Q, H0, dC, dI, Y, ad, A, nL⟩ := Γ
  obtain ⟨hx, hb, hml, hown, hts, hK, hA, hd1, hd2, hnl⟩ := hC
  intro H locs ls hP hS hl
  subst h; subst hnl; exact lv_astoreN hx hb hd hl hn rfl (fun ls' hl' => kk H locs ls' hP hS (lvh_set hok hl'))
def fl (f : Nat → Int32) (n : Nat) (v : Int32) : Nat → Int32 := fun j => if j < n then v else f j
def flA (n : Nat) (μ : MI) (a : Nat) (v : Int32) : Option MI := some (sa μ a (fl (μ.1 a) n v))
/-- what bitCount counts, in its own steps -/
def us (x s : Int32) : Int32 := (x.toUInt32 >>> (s.toUInt32 &&& Int32.toUInt32 31)).toInt32
def bc1 (x : Int32) : Int32 := x - (us x 1 &&& 1431655765)
def bc2 (x : Int32) : Int32 := (x &&& 858993459) + (us x 2 &&& 858993459)
def bc3 (x : Int32) : Int32 := (x + us x 4) &&& 252645135
def bc4 (x : Int32) : Int32 := x + us x 8
def bc5 (x : Int32) : Int32 := x + us x 16
def bc (x : Int32) : Int32 := bc5 (bc4 (bc3 (bc2 (bc1 x)))) &&& 63
theorem kX0 {Γ : GT} (h : kX Γ 0 0) : kX Γ 0 0 := h

