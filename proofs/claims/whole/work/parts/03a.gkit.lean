/-! ===== words: one list TT for all methods ===== -/
def TT : List Cond := lw_tbl.filter goodWord
theorem TT_at {w : Cond} (i : Nat) (h : tables_1[i]? = some w) (hg : goodWord w = true) : w ∈ TT :=
  List.mem_filter.mpr ⟨List.mem_append_right _ (List.mem_of_getElem? h), hg⟩
theorem TT_sel {w : Cond} (i : Nat) (h : (k2_sels lw_privs)[i]? = some w) (hg : goodWord w = true) : w ∈ TT :=
  List.mem_filter.mpr ⟨List.mem_append_left _ (List.mem_of_getElem? h), hg⟩
theorem TT_good {w : Cond} (h : w ∈ TT) : goodWord w = true := (List.mem_filter.mp h).2
theorem TT_tbl {w : Cond} (h : w ∈ TT) : w ∈ lw_tbl := (List.mem_filter.mp h).1
theorem TT_pay {s : State} {args : Array Value} (h : ∀ w ∈ TT, w.before args s = true) {w : Cond} (hw : w ∈ TT) (a' : Array Value) (U : State) (hW : s.WarmedH U.vm) : w.before a' U = true :=
  word_at hW (good_of_word (TT_good hw)) (h w hw)
/-! ===== locals: a dense list ===== -/
def lvE : Nat → List (Option Value) → List (Nat × Value)
  | _, [] => []
  | k, none :: t => lvE (k + 1) t
  | k, some v :: t => (k, v) :: lvE (k + 1) t
theorem lvE_mem : ∀ (lv : List (Option Value)) (k i : Nat) (v : Value), lv[i]? = some (some v) → (k + i, v) ∈ lvE k lv
  | [], k, i, v, h => by simp at h
  | none :: t, k, 0, v, h => by simp at h
  | none :: t, k, i + 1, v, h => by
    have h2 := lvE_mem t (k + 1) i v (by simpa using h)
    rw [show k + (i + 1) = k + 1 + i by omega]; exact h2
  | some w :: t, k, 0, v, h => by
    simp at h; subst h; exact List.mem_cons_self
  | some w :: t, k, i + 1, v, h => by
    have h2 := lvE_mem t (k + 1) i v (by simpa using h)
    rw [show k + (i + 1) = k + 1 + i by omega]; exact List.mem_cons_of_mem _ h2
theorem mem_lvE : ∀ (lv : List (Option Value)) (k j : Nat) (v : Value), (j, v) ∈ lvE k lv → ∃ i, j = k + i ∧ lv[i]? = some (some v)
  | [], k, j, v, h => by simp [lvE] at h
  | none :: t, k, j, v, h => by
    obtain ⟨i, h1, h2⟩ := mem_lvE t (k + 1) j v h
    exact ⟨i + 1, by omega, by simpa using h2⟩
  | some w :: t, k, j, v, h => by
    rcases List.mem_cons.mp h with h | h
    · cases h; exact ⟨0, rfl, rfl⟩
    · obtain ⟨i, h1, h2⟩ := mem_lvE t (k + 1) j v h
      exact ⟨i + 1, by omega, by simpa using h2⟩
def lvh (ls : Array Slot) (nL : Nat) (lv : List (Option Value)) : Prop := lv_has ls nL (lvE 0 lv)
theorem lvh.at {ls : Array Slot} {nL : Nat} {lv : List (Option Value)} (h : lvh ls nL lv) {i : Nat} {v : Value} (hk : lv[i]? = some (some v)) : ls[i]? = some (.val v) := by
  have h1 := h.2.2 _ (lvE_mem lv 0 i v hk)
  simpa using h1
/-- slot i may be written: the one ahead of it is no long -/
def lvOk (lv : List (Option Value)) : Nat → Bool
  | 0 => true
  | j + 1 => match lv[j]? with
    | some (some w) => !(w.category == 2)
    | _ => true
theorem lvh_set {ls : Array Slot} {nL : Nat} {lv : List (Option Value)} {i : Nat} {v : Value} (hok : lvOk lv i = true)
    (h : lv_has ls nL ((i, v) :: (lvE 0 lv).filter (fun q => !(q.1 == i) && !(q.1 + 1 == i && q.2.category == 2)))) : lvh ls nL (lv.set i (some v)) := by
  refine ⟨h.1, h.2.1, fun q hq => ?_⟩
  obtain ⟨j, w⟩ := q
  obtain ⟨i2, e, h2⟩ := mem_lvE _ _ _ _ hq
  simp only [Nat.zero_add] at e
  subst e
  by_cases hj : i = j
  · subst hj
    have h3 : i < lv.length := by
      have := (List.getElem?_eq_some_iff.mp h2).1
      simpa using this
    rw [List.getElem?_set_self h3] at h2
    cases h2
    exact h.2.2 _ List.mem_cons_self
  · rw [List.getElem?_set_ne hj] at h2
    refine h.2.2 (j, w) (List.mem_cons_of_mem _ (List.mem_filter.mpr ⟨by simpa using lvE_mem lv 0 j w h2, ?_⟩))
    have e1 : (j == i) = false := by simpa using fun e => hj e.symm
    by_cases e2 : j + 1 = i
    · subst e2
      simp only [lvOk, h2] at hok
      simp at hok
      simp [hok]
    · simp [e1, e2]
theorem lvh_set2 {ls : Array Slot} {nL : Nat} {lv : List (Option Value)} {i : Nat} {v : Value} (hok : lvOk lv i = true) (hn : lv[i + 1]? = some none)
    (h : lv_has ls nL ((i, v) :: (lvE 0 lv).filter (fun q => !(q.1 == i) && (!(q.1 == i + 1) && !(q.1 + 1 == i && q.2.category == 2))))) : lvh ls nL (lv.set i (some v)) := by
  refine ⟨h.1, h.2.1, fun q hq => ?_⟩
  obtain ⟨j, w⟩ := q
  obtain ⟨i2, e, h2⟩ := mem_lvE _ _ _ _ hq
  simp only [Nat.zero_add] at e
  subst e
  by_cases hj : i = j
  · subst hj
    have h3 : i < lv.length := by
      have := (List.getElem?_eq_some_iff.mp h2).1
      simpa using this
    rw [List.getElem?_set_self h3] at h2
    cases h2
    exact h.2.2 _ List.mem_cons_self
  · rw [List.getElem?_set_ne hj] at h2
    refine h.2.2 (j, w) (List.mem_cons_of_mem _ (List.mem_filter.mpr ⟨by simpa using lvE_mem lv 0 j w h2, ?_⟩))
    have e1 : (j == i) = false := by simpa using fun e => hj e.symm
    have e3 : (j == i + 1) = false := by
      simp only [beq_eq_false_iff_ne, ne_eq]
      intro e; subst e; rw [h2] at hn; simp at hn
    by_cases e2 : j + 1 = i
    · subst e2
      simp only [lvOk, h2] at hok
      simp at hok
      have e4 : (j == j + 1) = false := by simp
      have e5 : (j == j + 1 + 1) = false := by simp; omega
      simp [hok, e4, e5]
    · simp [e1, e2, e3]
def lvLe : List (Option Value) → List (Option Value) → Prop
  | [], _ => True
  | none :: a, [] => lvLe a []
  | none :: a, _ :: b => lvLe a b
  | some v :: a, some w :: b => v = w ∧ lvLe a b
  | some _ :: _, _ => False
theorem lvLe_at : ∀ (a b : List (Option Value)) (i : Nat) (v : Value), lvLe a b → a[i]? = some (some v) → b[i]? = some (some v)
  | [], b, i, v, h, hi => by simp at hi
  | none :: a, [], 0, v, h, hi => by simp at hi
  | none :: a, [], i + 1, v, h, hi => by
    have := lvLe_at a [] i v h (by simpa using hi)
    simp at this
  | none :: a, y :: b, 0, v, h, hi => by simp at hi
  | none :: a, y :: b, i + 1, v, h, hi => by
    have := lvLe_at a b i v h (by simpa using hi)
    simpa using this
  | some w :: a, some z :: b, 0, v, h, hi => by
    obtain ⟨rfl, -⟩ := h
    exact hi
  | some w :: a, some z :: b, i + 1, v, h, hi => by
    have := lvLe_at a b i v h.2 (by simpa using hi)
    simpa using this
  | some w :: a, none :: b, i, v, h, hi => by exact absurd h (by simp [lvLe])
  | some w :: a, [], i, v, h, hi => by exact absurd h (by simp [lvLe])
theorem lvh.le {ls : Array Slot} {nL : Nat} {lv lv' : List (Option Value)} (h : lvh ls nL lv) (hle : lvLe lv' lv) : lvh ls nL lv' := by
  refine ⟨h.1, h.2.1, fun q hq => ?_⟩
  obtain ⟨j, w⟩ := q
  obtain ⟨i, e, h2⟩ := mem_lvE _ _ _ _ hq
  simp only [Nat.zero_add] at e
  subst e
  exact h.at (lvLe_at _ _ _ _ hle h2)
/-! ===== the memory, the layout ===== -/
abbrev MI : Type := (Nat → Nat → Int32) × (Nat → Nat → Int64)
/-- a cell: an object (its class by number; a slot: a number (none), or a reference that stays), or an array (kind 0 int, 1 boolean, 2 long, 3 shelves; length; the references) -/
abbrev LC : Type := (Nat × List (Option (Option Nat))) ⊕ (Nat × Nat × List (Option Nat))
abbrev LY : Type := List LC
def sV (ad : Nat → Nat) (x : Int32) : Option (Option Nat) → Value
  | none => .int x
  | some r => va_rf (r.map ad)
def cE (ad : Nat → Nat) (Y : Nat → ClassId) (μ : MI) (k : Nat) : LC → va_E
  | .inl q => .inr (q.1, q.2.zipIdx.map fun z => sV ad (μ.1 k z.2) z.1)
  | .inr (0, n, _) => .inl (Y 0, (n, .inl (μ.1 k)))
  | .inr (1, n, _) => .inl (Y 1, (n, .inl (μ.1 k)))
  | .inr (2, n, _) => .inl (Y 2, (n, .inr (.inl (μ.2 k))))
  | .inr (_, n, rs) => .inl (Y 3, (n, .inr (.inr (.inr (.inr (fun j => (rs.getD j none).map ad))))))
def wsOf (ad : Nat → Nat) (Y : Nat → ClassId) (L : LY) (μ : MI) : va_W := L.zipIdx.map fun z => (ad z.2, cE ad Y μ z.2 z.1)
theorem ws_at {ad : Nat → Nat} {Y : Nat → ClassId} {L : LY} {μ : MI} {k : Nat} {c : LC} (h : L[k]? = some c) : (wsOf ad Y L μ)[k]? = some (ad k, cE ad Y μ k c) := by
  simp [wsOf, h]
theorem ws_len {ad : Nat → Nat} {Y : Nat → ClassId} {L : LY} {μ : MI} : (wsOf ad Y L μ).length = L.length := by simp [wsOf]
def adOK (A : Nat → Prop) (ad : Nat → Nat) (n : Nat) : Prop := (∀ i j, i < n → j < n → ad i = ad j → i = j) ∧ ∀ i, i < n → A (ad i)
theorem adOK.D {A : Nat → Prop} {ad : Nat → Nat} {L : LY} (h : adOK A ad L.length) (Y : Nat → ClassId) (μ : MI) : va_D A (wsOf ad Y L μ) := by
  have key : ∀ (i : Nat) (p : Nat × va_E), (wsOf ad Y L μ)[i]? = some p → i < L.length ∧ p.1 = ad i := by
    intro i p hp
    have h1 : i < L.length := by
      have := (List.getElem?_eq_some_iff.mp hp).1
      rwa [ws_len] at this
    rw [ws_at (List.getElem?_eq_getElem h1)] at hp
    cases hp
    exact ⟨h1, rfl⟩
  refine ⟨fun i j p q hp hq e => ?_, fun k q hq => ?_⟩
  · obtain ⟨h1, e1⟩ := key i p hp
    obtain ⟨h2, e2⟩ := key j q hq
    exact h.1 i j h1 h2 (by rw [← e1, ← e2, e])
  · obtain ⟨h1, e1⟩ := key k q hq
    rw [e1]; exact h.2 k h1
def si (μ : MI) (a j : Nat) (x : Int32) : MI := (fun b => if b = a then upd (μ.1 b) j x else μ.1 b, μ.2)
def sl (μ : MI) (a j : Nat) (x : Int64) : MI := (μ.1, fun b => if b = a then vp_updL (μ.2 b) j x else μ.2 b)
def sa (μ : MI) (a : Nat) (f : Nat → Int32) : MI := (fun b => if b = a then f else μ.1 b, μ.2)
theorem cE_ne_i {ad Y μ} {k a : Nat} {f : Nat → Int32} (h : k ≠ a) (c : LC) : cE ad Y (sa μ a f) k c = cE ad Y μ k c := by
  rcases c with c | ⟨z, n, rs⟩
  · simp [cE, sa, h]
  · rcases z with _ | _ | _ | z <;> simp [cE, sa, h]
theorem si_sa (μ : MI) (a j : Nat) (x : Int32) : si μ a j x = sa μ a (upd (μ.1 a) j x) := by
  unfold si sa
  congr 1
  funext b
  by_cases h : b = a
  · subst h; simp
  · simp [h]
theorem cE_ne_l {ad Y μ} {k a j : Nat} {x : Int64} (h : k ≠ a) (c : LC) : cE ad Y (sl μ a j x) k c = cE ad Y μ k c := by
  rcases c with c | ⟨z, n, rs⟩
  · simp [cE, sl]
  · rcases z with _ | _ | _ | z <;> simp [cE, sl, h]
theorem ws_sa {ad : Nat → Nat} {Y : Nat → ClassId} {L : LY} {μ : MI} {a : Nat} {f : Nat → Int32} {c : LC} (h : L[a]? = some c) :
    (wsOf ad Y L μ).set a (ad a, cE ad Y (sa μ a f) a c) = wsOf ad Y L (sa μ a f) := by
  apply List.ext_getElem?
  intro i
  by_cases hi : a = i
  · subst hi
    have h1 : a < (wsOf ad Y L μ).length := by rw [ws_len]; exact (List.getElem?_eq_some_iff.mp h).1
    rw [List.getElem?_set_self h1, ws_at h]
  · rw [List.getElem?_set_ne hi]
    rcases hc : L[i]? with _ | c2
    · have h2 : L.length ≤ i := by simpa using hc
      rw [List.getElem?_eq_none (by rw [ws_len]; exact h2), List.getElem?_eq_none (by rw [ws_len]; exact h2)]
    · rw [ws_at hc, ws_at hc, cE_ne_i (Ne.symm hi)]
theorem ws_sl {ad : Nat → Nat} {Y : Nat → ClassId} {L : LY} {μ : MI} {a j : Nat} {x : Int64} {c : LC} (h : L[a]? = some c) :
    (wsOf ad Y L μ).set a (ad a, cE ad Y (sl μ a j x) a c) = wsOf ad Y L (sl μ a j x) := by
  apply List.ext_getElem?
  intro i
  by_cases hi : a = i
  · subst hi
    have h1 : a < (wsOf ad Y L μ).length := by rw [ws_len]; exact (List.getElem?_eq_some_iff.mp h).1
    rw [List.getElem?_set_self h1, ws_at h]
  · rw [List.getElem?_set_ne hi]
    rcases hc : L[i]? with _ | c2
    · have h2 : L.length ≤ i := by simpa using hc
      rw [List.getElem?_eq_none (by rw [ws_len]; exact h2), List.getElem?_eq_none (by rw [ws_len]; exact h2)]
    · rw [ws_at hc, ws_at hc, cE_ne_l (Ne.symm hi)]
theorem map_sV_set {ad : Nat → Nat} {f : Nat → Int32} {j : Nat} {x : Int32} {s : List (Option (Option Nat))} (h : s[j]? = some none) :
    (s.zipIdx.map fun z => sV ad (f z.2) z.1).set j (.int x) = s.zipIdx.map fun z => sV ad (upd f j x z.2) z.1 := by
  apply List.ext_getElem?
  intro i
  by_cases hi : j = i
  · subst hi
    have h1 : j < (s.zipIdx.map fun z => sV ad (f z.2) z.1).length := by simpa using (List.getElem?_eq_some_iff.mp h).1
    rw [List.getElem?_set_self h1]
    simp [h, sV, upd]
  · rw [List.getElem?_set_ne hi]
    rcases hc : s[i]? with _ | c2
    · simp [hc]
    · simp [hc, upd, Ne.symm hi]
/-- the arrays' classes -/
abbrev tysOf (Y : Nat → ClassId) : List (ClassId × FieldType) := [(Y 0, .int), (Y 1, .boolean), (Y 2, .long), (Y 3, .object RX8)]
/-! ===== the judgement ===== -/
abbrev GT : Type := Program × Launch × Env × Room × State × MethodId × Array Value × List Frame × Method × Code × (State → Prop) × Heap × (Nat → ClassId) × (Nat → Nat → Nat) × (Nat → ClassId) × (Nat → Nat) × (Nat → Prop) × Nat
def GX (Γ : GT) (L : LY) (k n : Nat) (lv : List (Option Value)) (st : List Value) (μ : MI) (pc : Nat) : Prop :=
  match Γ with
  | (p, l, e, R, s, m, args, below, meth, c, Q, H0, dC, dI, Y, ad, A, nL) =>
    ∀ (H : Heap) (locs : List Loc) (ls : Array Slot), va_P (dC, dI) vwCl (wsOf ad Y L μ) H → va_S A H0 H locs → lvh ls nL lv → W p l e R s m args below meth c H locs k n Q (F0 m pc ls st)
def CX (Γ : GT) (cc : ByteArray) (own : String) (L : LY) (d nL0 : Nat) : Prop :=
  match Γ with
  | (p, l, e, R, s, m, args, below, meth, c, Q, H0, dC, dI, Y, ad, A, nL) =>
    p.tables.exec = Jvm.exec ∧ c.code = cc ∧ c.maxLocals = nL ∧ s.vm.findClass own = some m.cls ∧ (∀ w ∈ TT, w.before args s = true) ∧ va_K (dC, dI) vwCl (tysOf Y) s ∧ adOK A ad L.length ∧ d ≤ R.frames ∧ 100 * d ≤ R.locals ∧ nL = nL0
/-- cells and slots made so far are within the room -/
def kX (Γ : GT) (k n : Nat) : Prop := match Γ with
  | (_, _, _, R, _) => k ≤ R.cells ∧ n ≤ R.slots
abbrev gad (Γ : GT) : Nat → Nat := Γ.2.2.2.2.2.2.2.2.2.2.2.2.2.2.2.1
abbrev gln (Γ : GT) : Launch := Γ.2.1
theorem GX.le {Γ L k n lv lv' st μ pc} (h : GX Γ L k n lv' st μ pc) (hle : lvLe lv' lv) : GX Γ L k n lv st μ pc := by
  obtain ⟨p, l, e, R, s, m, args, below, meth, c, Q, H0, dC, dI, Y, ad, A, nL⟩ := Γ
  intro H locs ls hP hS hl
  exact h H locs ls hP hS (hl.le hle)
theorem GX_nm {Γ L k n lv st μ pc} {x y : Int32} (h : x = y) (hG : GX Γ L k n lv (.int y :: st) μ pc) : GX Γ L k n lv (.int x :: st) μ pc := h ▸ hG
def bI : Bool → Int32
  | true => 1
  | false => 0
theorem nar_b (b : Bool) : narrow .boolean (.int (bI b)) = .int (bI b) := by cases b <;> rfl
theorem vnar_b (b : Bool) : vp_nar .boolean (bI b) = bI b := by cases b <;> rfl
theorem fits_b (b : Bool) : fits .boolean (.int (bI b)) = true := by cases b <;> rfl
theorem lgc_lt (x y : Int64) : lg_cmp x y < 0 ↔ x < y := by
  unfold lg_cmp
  by_cases h : x > y
  · rw [if_pos h]
    have h1 : ¬ x < y := fun h2 => by
      have := Int64.lt_iff_toInt_lt.mp h; have := Int64.lt_iff_toInt_lt.mp h2; omega
    simp [h1]
  · rw [if_neg h]
    by_cases h2 : x = y
    · subst h2; simp
    · rw [if_neg h2]
      have : x < y := by
        rw [Int64.lt_iff_toInt_lt]
        have h3 : ¬ y.toInt < x.toInt := fun q => h (Int64.lt_iff_toInt_lt.mpr q)
        have h4 : x.toInt ≠ y.toInt := fun q => h2 (Int64.toInt_inj.mp q)
        omega
      simp [this]
theorem lgc_eq (x y : Int64) : lg_cmp x y = 0 ↔ x = y := by
  unfold lg_cmp
  by_cases h : x > y
  · rw [if_pos h]
    have h1 : x ≠ y := fun h2 => by
      subst h2
      have := Int64.lt_iff_toInt_lt.mp h
      omega
    simp [h1]
  · rw [if_neg h]
    by_cases h2 : x = y
    · simp [h2]
    · simp [h2]
theorem lgc_gt (x y : Int64) : 0 < lg_cmp x y ↔ y < x := by
  unfold lg_cmp
  by_cases h : x > y
  · rw [if_pos h]; simpa using h
  · rw [if_neg h]
    have h1 : ¬ y < x := h
    by_cases h2 : x = y
    · subst h2; simp
    · rw [if_neg h2]; simp [h1]

theorem GX_iadd {Γ : GT} {cc : ByteArray} {own : String} {L : LY} {d nL0 k n : Nat} {lv : List (Option Value)} {st : List Value} {μ : MI} {pc : Nat} (hC : CX Γ cc own L d nL0) {x y : Int32} (hd : decode cc pc = .ok (.iadd, 1)) (kk : GX Γ L k n lv (.int (x + y) :: st) μ (pc + 1)) : GX Γ L k n lv (.int y :: .int x :: st) μ pc := by
  obtain ⟨p, l, e, R, s, m, args, below, meth, c, Q, H0, dC, dI, Y, ad, A, nL⟩ := Γ
  obtain ⟨hx, hb, hml, hown, hts, hK, hA, hd1, hd2, hnl⟩ := hC
  intro H locs ls hP hS hl
  exact lv_iadd hx hb hd (kk H locs ls hP hS hl)

theorem GX_isub {Γ : GT} {cc : ByteArray} {own : String} {L : LY} {d nL0 k n : Nat} {lv : List (Option Value)} {st : List Value} {μ : MI} {pc : Nat} (hC : CX Γ cc own L d nL0) {x y : Int32} (hd : decode cc pc = .ok (.isub, 1)) (kk : GX Γ L k n lv (.int (x - y) :: st) μ (pc + 1)) : GX Γ L k n lv (.int y :: .int x :: st) μ pc := by
  obtain ⟨p, l, e, R, s, m, args, below, meth, c, Q, H0, dC, dI, Y, ad, A, nL⟩ := Γ
  obtain ⟨hx, hb, hml, hown, hts, hK, hA, hd1, hd2, hnl⟩ := hC
  intro H locs ls hP hS hl
  exact lv_isub hx hb hd (kk H locs ls hP hS hl)

theorem GX_imul {Γ : GT} {cc : ByteArray} {own : String} {L : LY} {d nL0 k n : Nat} {lv : List (Option Value)} {st : List Value} {μ : MI} {pc : Nat} (hC : CX Γ cc own L d nL0) {x y : Int32} (hd : decode cc pc = .ok (.imul, 1)) (kk : GX Γ L k n lv (.int (x * y) :: st) μ (pc + 1)) : GX Γ L k n lv (.int y :: .int x :: st) μ pc := by
  obtain ⟨p, l, e, R, s, m, args, below, meth, c, Q, H0, dC, dI, Y, ad, A, nL⟩ := Γ
  obtain ⟨hx, hb, hml, hown, hts, hK, hA, hd1, hd2, hnl⟩ := hC
  intro H locs ls hP hS hl
  exact lv_imul hx hb hd (kk H locs ls hP hS hl)

theorem GX_iand {Γ : GT} {cc : ByteArray} {own : String} {L : LY} {d nL0 k n : Nat} {lv : List (Option Value)} {st : List Value} {μ : MI} {pc : Nat} (hC : CX Γ cc own L d nL0) {x y : Int32} (hd : decode cc pc = .ok (.iand, 1)) (kk : GX Γ L k n lv (.int (x &&& y) :: st) μ (pc + 1)) : GX Γ L k n lv (.int y :: .int x :: st) μ pc := by
  obtain ⟨p, l, e, R, s, m, args, below, meth, c, Q, H0, dC, dI, Y, ad, A, nL⟩ := Γ
  obtain ⟨hx, hb, hml, hown, hts, hK, hA, hd1, hd2, hnl⟩ := hC
  intro H locs ls hP hS hl
  exact lv_iand hx hb hd (kk H locs ls hP hS hl)

theorem GX_ior {Γ : GT} {cc : ByteArray} {own : String} {L : LY} {d nL0 k n : Nat} {lv : List (Option Value)} {st : List Value} {μ : MI} {pc : Nat} (hC : CX Γ cc own L d nL0) {x y : Int32} (hd : decode cc pc = .ok (.ior, 1)) (kk : GX Γ L k n lv (.int (x ||| y) :: st) μ (pc + 1)) : GX Γ L k n lv (.int y :: .int x :: st) μ pc := by
  obtain ⟨p, l, e, R, s, m, args, below, meth, c, Q, H0, dC, dI, Y, ad, A, nL⟩ := Γ
  obtain ⟨hx, hb, hml, hown, hts, hK, hA, hd1, hd2, hnl⟩ := hC
  intro H locs ls hP hS hl
  exact lv_ior hx hb hd (kk H locs ls hP hS hl)

theorem GX_ixor {Γ : GT} {cc : ByteArray} {own : String} {L : LY} {d nL0 k n : Nat} {lv : List (Option Value)} {st : List Value} {μ : MI} {pc : Nat} (hC : CX Γ cc own L d nL0) {x y : Int32} (hd : decode cc pc = .ok (.ixor, 1)) (kk : GX Γ L k n lv (.int (x ^^^ y) :: st) μ (pc + 1)) : GX Γ L k n lv (.int y :: .int x :: st) μ pc := by
  obtain ⟨p, l, e, R, s, m, args, below, meth, c, Q, H0, dC, dI, Y, ad, A, nL⟩ := Γ
  obtain ⟨hx, hb, hml, hown, hts, hK, hA, hd1, hd2, hnl⟩ := hC
  intro H locs ls hP hS hl
  exact lv_ixor hx hb hd (kk H locs ls hP hS hl)

theorem GX_ishl {Γ : GT} {cc : ByteArray} {own : String} {L : LY} {d nL0 k n : Nat} {lv : List (Option Value)} {st : List Value} {μ : MI} {pc : Nat} (hC : CX Γ cc own L d nL0) {x y : Int32} (hd : decode cc pc = .ok (.ishl, 1)) (kk : GX Γ L k n lv (.int (x <<< (y &&& 31)) :: st) μ (pc + 1)) : GX Γ L k n lv (.int y :: .int x :: st) μ pc := by
  obtain ⟨p, l, e, R, s, m, args, below, meth, c, Q, H0, dC, dI, Y, ad, A, nL⟩ := Γ
  obtain ⟨hx, hb, hml, hown, hts, hK, hA, hd1, hd2, hnl⟩ := hC
  intro H locs ls hP hS hl
  exact lv_ishl hx hb hd (kk H locs ls hP hS hl)

theorem GX_ishr {Γ : GT} {cc : ByteArray} {own : String} {L : LY} {d nL0 k n : Nat} {lv : List (Option Value)} {st : List Value} {μ : MI} {pc : Nat} (hC : CX Γ cc own L d nL0) {x y : Int32} (hd : decode cc pc = .ok (.ishr, 1)) (kk : GX Γ L k n lv (.int (x >>> (y &&& 31)) :: st) μ (pc + 1)) : GX Γ L k n lv (.int y :: .int x :: st) μ pc := by
  obtain ⟨p, l, e, R, s, m, args, below, meth, c, Q, H0, dC, dI, Y, ad, A, nL⟩ := Γ
  obtain ⟨hx, hb, hml, hown, hts, hK, hA, hd1, hd2, hnl⟩ := hC
  intro H locs ls hP hS hl
  exact lv_ishr hx hb hd (kk H locs ls hP hS hl)

theorem GX_iushr {Γ : GT} {cc : ByteArray} {own : String} {L : LY} {d nL0 k n : Nat} {lv : List (Option Value)} {st : List Value} {μ : MI} {pc : Nat} (hC : CX Γ cc own L d nL0) {x y : Int32} (hd : decode cc pc = .ok (.iushr, 1)) (kk : GX Γ L k n lv (.int ((x.toUInt32 >>> (y.toUInt32 &&& Int32.toUInt32 31)).toInt32) :: st) μ (pc + 1)) : GX Γ L k n lv (.int y :: .int x :: st) μ pc := by
  obtain ⟨p, l, e, R, s, m, args, below, meth, c, Q, H0, dC, dI, Y, ad, A, nL⟩ := Γ
  obtain ⟨hx, hb, hml, hown, hts, hK, hA, hd1, hd2, hnl⟩ := hC
  intro H locs ls hP hS hl
  exact lv_iushr hx hb hd rfl (kk H locs ls hP hS hl)

theorem GX_idiv {Γ : GT} {cc : ByteArray} {own : String} {L : LY} {d nL0 k n : Nat} {lv : List (Option Value)} {st : List Value} {μ : MI} {pc : Nat} (hC : CX Γ cc own L d nL0) {x y : Int32} (hd : decode cc pc = .ok (.idiv, 1)) (hne : ¬ y = 0) (kk : GX Γ L k n lv (.int (x / y) :: st) μ (pc + 1)) : GX Γ L k n lv (.int y :: .int x :: st) μ pc := by
  obtain ⟨p, l, e, R, s, m, args, below, meth, c, Q, H0, dC, dI, Y, ad, A, nL⟩ := Γ
  obtain ⟨hx, hb, hml, hown, hts, hK, hA, hd1, hd2, hnl⟩ := hC
  intro H locs ls hP hS hl
  exact lv_idiv hx hb hd hne (kk H locs ls hP hS hl)

/-- what irem leaves -/
def rm32 (x y : Int32) : Int32 := x - x / y * y
theorem GX_irem {Γ : GT} {cc : ByteArray} {own : String} {L : LY} {d nL0 k n : Nat} {lv : List (Option Value)} {st : List Value} {μ : MI} {pc : Nat} (hC : CX Γ cc own L d nL0) {x y : Int32} (hd : decode cc pc = .ok (.irem, 1)) (hne : ¬ y = 0) (kk : GX Γ L k n lv (.int (rm32 x y) :: st) μ (pc + 1)) : GX Γ L k n lv (.int y :: .int x :: st) μ pc := by
  obtain ⟨p, l, e, R, s, m, args, below, meth, c, Q, H0, dC, dI, Y, ad, A, nL⟩ := Γ
  obtain ⟨hx, hb, hml, hown, hts, hK, hA, hd1, hd2, hnl⟩ := hC
  intro H locs ls hP hS hl
  exact lv_irem hx hb hd hne (kk H locs ls hP hS hl)

theorem GX_ineg {Γ : GT} {cc : ByteArray} {own : String} {L : LY} {d nL0 k n : Nat} {lv : List (Option Value)} {st : List Value} {μ : MI} {pc : Nat} (hC : CX Γ cc own L d nL0) {x : Int32} (hd : decode cc pc = .ok (.ineg, 1)) (kk : GX Γ L k n lv (.int (-x) :: st) μ (pc + 1)) : GX Γ L k n lv (.int x :: st) μ pc := by
  obtain ⟨p, l, e, R, s, m, args, below, meth, c, Q, H0, dC, dI, Y, ad, A, nL⟩ := Γ
  obtain ⟨hx, hb, hml, hown, hts, hK, hA, hd1, hd2, hnl⟩ := hC
  intro H locs ls hP hS hl
  exact lv_ineg hx hb hd (kk H locs ls hP hS hl)

theorem GX_i2l {Γ : GT} {cc : ByteArray} {own : String} {L : LY} {d nL0 k n : Nat} {lv : List (Option Value)} {st : List Value} {μ : MI} {pc : Nat} (hC : CX Γ cc own L d nL0) {x : Int32} (hd : decode cc pc = .ok (.i2l, 1)) (kk : GX Γ L k n lv (.long x.toInt64 :: st) μ (pc + 1)) : GX Γ L k n lv (.int x :: st) μ pc := by
  obtain ⟨p, l, e, R, s, m, args, below, meth, c, Q, H0, dC, dI, Y, ad, A, nL⟩ := Γ
  obtain ⟨hx, hb, hml, hown, hts, hK, hA, hd1, hd2, hnl⟩ := hC
  intro H locs ls hP hS hl
  exact lv_i2l hx hb hd rfl (kk H locs ls hP hS hl)

theorem GX_l2i {Γ : GT} {cc : ByteArray} {own : String} {L : LY} {d nL0 k n : Nat} {lv : List (Option Value)} {st : List Value} {μ : MI} {pc : Nat} (hC : CX Γ cc own L d nL0) {x : Int64} (hd : decode cc pc = .ok (.l2i, 1)) (kk : GX Γ L k n lv (.int x.toInt32 :: st) μ (pc + 1)) : GX Γ L k n lv (.long x :: st) μ pc := by
  obtain ⟨p, l, e, R, s, m, args, below, meth, c, Q, H0, dC, dI, Y, ad, A, nL⟩ := Γ
  obtain ⟨hx, hb, hml, hown, hts, hK, hA, hd1, hd2, hnl⟩ := hC
  intro H locs ls hP hS hl
  exact lv_l2i hx hb hd rfl (kk H locs ls hP hS hl)

theorem GX_i2b {Γ : GT} {cc : ByteArray} {own : String} {L : LY} {d nL0 k n : Nat} {lv : List (Option Value)} {st : List Value} {μ : MI} {pc : Nat} (hC : CX Γ cc own L d nL0) {x : Int32} (hd : decode cc pc = .ok (.i2b, 1)) (kk : GX Γ L k n lv (.int x.toInt8.toInt32 :: st) μ (pc + 1)) : GX Γ L k n lv (.int x :: st) μ pc := by
  obtain ⟨p, l, e, R, s, m, args, below, meth, c, Q, H0, dC, dI, Y, ad, A, nL⟩ := Γ
  obtain ⟨hx, hb, hml, hown, hts, hK, hA, hd1, hd2, hnl⟩ := hC
  intro H locs ls hP hS hl
  exact lv_i2b hx hb hd rfl (kk H locs ls hP hS hl)

theorem GX_i2s {Γ : GT} {cc : ByteArray} {own : String} {L : LY} {d nL0 k n : Nat} {lv : List (Option Value)} {st : List Value} {μ : MI} {pc : Nat} (hC : CX Γ cc own L d nL0) {x : Int32} (hd : decode cc pc = .ok (.i2s, 1)) (kk : GX Γ L k n lv (.int x.toInt16.toInt32 :: st) μ (pc + 1)) : GX Γ L k n lv (.int x :: st) μ pc := by
  obtain ⟨p, l, e, R, s, m, args, below, meth, c, Q, H0, dC, dI, Y, ad, A, nL⟩ := Γ
  obtain ⟨hx, hb, hml, hown, hts, hK, hA, hd1, hd2, hnl⟩ := hC
  intro H locs ls hP hS hl
  exact lv_i2s hx hb hd rfl (kk H locs ls hP hS hl)

theorem GX_lcmp {Γ : GT} {cc : ByteArray} {own : String} {L : LY} {d nL0 k n : Nat} {lv : List (Option Value)} {st : List Value} {μ : MI} {pc : Nat} (hC : CX Γ cc own L d nL0) {x y : Int64} (hd : decode cc pc = .ok (.lcmp, 1)) (kk : GX Γ L k n lv (.int (lg_cmp x y) :: st) μ (pc + 1)) : GX Γ L k n lv (.long y :: .long x :: st) μ pc := by
  obtain ⟨p, l, e, R, s, m, args, below, meth, c, Q, H0, dC, dI, Y, ad, A, nL⟩ := Γ
  obtain ⟨hx, hb, hml, hown, hts, hK, hA, hd1, hd2, hnl⟩ := hC
  intro H locs ls hP hS hl
  exact W.lcmp hx hb hd (kk H locs ls hP hS hl)

theorem GX_dup {Γ : GT} {cc : ByteArray} {own : String} {L : LY} {d nL0 k n : Nat} {lv : List (Option Value)} {st : List Value} {μ : MI} {pc : Nat} (hC : CX Γ cc own L d nL0) {v : Value} (hd : decode cc pc = .ok (.dup, 1)) (hv : v.category = 1) (kk : GX Γ L k n lv (v :: v :: st) μ (pc + 1)) : GX Γ L k n lv (v :: st) μ pc := by
  obtain ⟨p, l, e, R, s, m, args, below, meth, c, Q, H0, dC, dI, Y, ad, A, nL⟩ := Γ
  obtain ⟨hx, hb, hml, hown, hts, hK, hA, hd1, hd2, hnl⟩ := hC
  intro H locs ls hP hS hl
  exact lv_dup hx hb hd hv (kk H locs ls hP hS hl)

theorem GX_dup2 {Γ : GT} {cc : ByteArray} {own : String} {L : LY} {d nL0 k n : Nat} {lv : List (Option Value)} {st : List Value} {μ : MI} {pc : Nat} (hC : CX Γ cc own L d nL0) {v w : Value} (hd : decode cc pc = .ok (.dup2, 1)) (hv : v.category = 1) (hw : w.category = 1) (kk : GX Γ L k n lv (v :: w :: v :: w :: st) μ (pc + 1)) : GX Γ L k n lv (v :: w :: st) μ pc := by
  obtain ⟨p, l, e, R, s, m, args, below, meth, c, Q, H0, dC, dI, Y, ad, A, nL⟩ := Γ
  obtain ⟨hx, hb, hml, hown, hts, hK, hA, hd1, hd2, hnl⟩ := hC
  intro H locs ls hP hS hl
  exact lv_dup2_11 hx hb hd hv hw (kk H locs ls hP hS hl)

theorem GX_pop {Γ : GT} {cc : ByteArray} {own : String} {L : LY} {d nL0 k n : Nat} {lv : List (Option Value)} {st : List Value} {μ : MI} {pc : Nat} (hC : CX Γ cc own L d nL0) {v : Value} (hd : decode cc pc = .ok (.pop, 1)) (hv : v.category = 1) (kk : GX Γ L k n lv st μ (pc + 1)) : GX Γ L k n lv (v :: st) μ pc := by
  obtain ⟨p, l, e, R, s, m, args, below, meth, c, Q, H0, dC, dI, Y, ad, A, nL⟩ := Γ
  obtain ⟨hx, hb, hml, hown, hts, hK, hA, hd1, hd2, hnl⟩ := hC
  intro H locs ls hP hS hl
  exact lv_pop hx hb hd hv (kk H locs ls hP hS hl)

theorem GX_null {Γ : GT} {cc : ByteArray} {own : String} {L : LY} {d nL0 k n : Nat} {lv : List (Option Value)} {st : List Value} {μ : MI} {pc : Nat} (hC : CX Γ cc own L d nL0) (hd : decode cc pc = .ok (.aconst_null, 1)) (kk : GX Γ L k n lv (.null :: st) μ (pc + 1)) : GX Γ L k n lv st μ pc := by
  obtain ⟨p, l, e, R, s, m, args, below, meth, c, Q, H0, dC, dI, Y, ad, A, nL⟩ := Γ
  obtain ⟨hx, hb, hml, hown, hts, hK, hA, hd1, hd2, hnl⟩ := hC
  intro H locs ls hP hS hl
  exact lv_null hx hb hd (kk H locs ls hP hS hl)

theorem GX_iconst {Γ : GT} {cc : ByteArray} {own : String} {L : LY} {d nL0 k n : Nat} {lv : List (Option Value)} {st : List Value} {μ : MI} {pc : Nat} (hC : CX Γ cc own L d nL0) {z : Int} (v : Int32) (hd : decode cc pc = .ok (.iconst z, 1)) (hv : Int32.ofInt z = v) (kk : GX Γ L k n lv (.int v :: st) μ (pc + 1)) : GX Γ L k n lv st μ pc := by
  obtain ⟨p, l, e, R, s, m, args, below, meth, c, Q, H0, dC, dI, Y, ad, A, nL⟩ := Γ
  obtain ⟨hx, hb, hml, hown, hts, hK, hA, hd1, hd2, hnl⟩ := hC
  intro H locs ls hP hS hl
  exact lv_iconst hx hb hd hv (kk H locs ls hP hS hl)

theorem GX_bipush {Γ : GT} {cc : ByteArray} {own : String} {L : LY} {d nL0 k n : Nat} {lv : List (Option Value)} {st : List Value} {μ : MI} {pc : Nat} (hC : CX Γ cc own L d nL0) {z : Int} (v : Int32) (hd : decode cc pc = .ok (.bipush z, 2)) (hv : (Int8.ofInt z).toInt32 = v) (kk : GX Γ L k n lv (.int v :: st) μ (pc + 2)) : GX Γ L k n lv st μ pc := by
  obtain ⟨p, l, e, R, s, m, args, below, meth, c, Q, H0, dC, dI, Y, ad, A, nL⟩ := Γ
  obtain ⟨hx, hb, hml, hown, hts, hK, hA, hd1, hd2, hnl⟩ := hC
  intro H locs ls hP hS hl
  exact lv_bipush hx hb hd hv (kk H locs ls hP hS hl)

theorem GX_sipush {Γ : GT} {cc : ByteArray} {own : String} {L : LY} {d nL0 k n : Nat} {lv : List (Option Value)} {st : List Value} {μ : MI} {pc : Nat} (hC : CX Γ cc own L d nL0) {z : Int} (v : Int32) (hd : decode cc pc = .ok (.sipush z, 3)) (hv : (Int16.ofInt z).toInt32 = v) (kk : GX Γ L k n lv (.int v :: st) μ (pc + 3)) : GX Γ L k n lv st μ pc := by
  obtain ⟨p, l, e, R, s, m, args, below, meth, c, Q, H0, dC, dI, Y, ad, A, nL⟩ := Γ
  obtain ⟨hx, hb, hml, hown, hts, hK, hA, hd1, hd2, hnl⟩ := hC
  intro H locs ls hP hS hl
  exact lv_sipush hx hb hd hv (kk H locs ls hP hS hl)

theorem GX_lconst {Γ : GT} {cc : ByteArray} {own : String} {L : LY} {d nL0 k n : Nat} {lv : List (Option Value)} {st : List Value} {μ : MI} {pc : Nat} (hC : CX Γ cc own L d nL0) {z : Fin 2} (v : Int64) (hd : decode cc pc = .ok (.lconst z, 1)) (hv : Int64.ofNat (z : Nat) = v) (kk : GX Γ L k n lv (.long v :: st) μ (pc + 1)) : GX Γ L k n lv st μ pc := by
  obtain ⟨p, l, e, R, s, m, args, below, meth, c, Q, H0, dC, dI, Y, ad, A, nL⟩ := Γ
  obtain ⟨hx, hb, hml, hown, hts, hK, hA, hd1, hd2, hnl⟩ := hC
  intro H locs ls hP hS hl
  exact lv_lconst hx hb hd hv (kk H locs ls hP hS hl)

theorem GX_ldc {Γ : GT} {cc : ByteArray} {own : String} {L : LY} {d nL0 k n : Nat} {lv : List (Option Value)} {st : List Value} {μ : MI} {pc : Nat} (hC : CX Γ cc own L d nL0) {ix : Nat} (v : Int32) (hw : Cond.constant own ix v ∈ TT) (hd : decode cc pc = .ok (.ldc ix, 2)) (kk : GX Γ L k n lv (.int v :: st) μ (pc + 2)) : GX Γ L k n lv st μ pc := by
  obtain ⟨p, l, e, R, s, m, args, below, meth, c, Q, H0, dC, dI, Y, ad, A, nL⟩ := Γ
  obtain ⟨hx, hb, hml, hown, hts, hK, hA, hd1, hd2, hnl⟩ := hC
  intro H locs ls hP hS hl
  exact lv_ldc hx hb hown (hts _ hw) hd (kk H locs ls hP hS hl)

theorem GX_ldcw {Γ : GT} {cc : ByteArray} {own : String} {L : LY} {d nL0 k n : Nat} {lv : List (Option Value)} {st : List Value} {μ : MI} {pc : Nat} (hC : CX Γ cc own L d nL0) {ix : Nat} (v : Int32) (hw : Cond.constant own ix v ∈ TT) (hd : decode cc pc = .ok (.ldc_w ix, 3)) (kk : GX Γ L k n lv (.int v :: st) μ (pc + 3)) : GX Γ L k n lv st μ pc := by
  obtain ⟨p, l, e, R, s, m, args, below, meth, c, Q, H0, dC, dI, Y, ad, A, nL⟩ := Γ
  obtain ⟨hx, hb, hml, hown, hts, hK, hA, hd1, hd2, hnl⟩ := hC
  intro H locs ls hP hS hl
  exact lv_ldcw hx hb hown (hts _ hw) hd (kk H locs ls hP hS hl)

theorem GX_ldc2 {Γ : GT} {cc : ByteArray} {own : String} {L : LY} {d nL0 k n : Nat} {lv : List (Option Value)} {st : List Value} {μ : MI} {pc : Nat} (hC : CX Γ cc own L d nL0) {ix : Nat} (v : Int64) (hw : Cond.constantLong own ix v ∈ TT) (hd : decode cc pc = .ok (.ldc2_w ix, 3)) (kk : GX Γ L k n lv (.long v :: st) μ (pc + 3)) : GX Γ L k n lv st μ pc := by
  obtain ⟨p, l, e, R, s, m, args, below, meth, c, Q, H0, dC, dI, Y, ad, A, nL⟩ := Γ
  obtain ⟨hx, hb, hml, hown, hts, hK, hA, hd1, hd2, hnl⟩ := hC
  intro H locs ls hP hS hl
  exact lv_ldc2 hx hb hown (hts _ hw) hd (kk H locs ls hP hS hl)

theorem GX_iload_n {Γ : GT} {cc : ByteArray} {own : String} {L : LY} {d nL0 k n : Nat} {lv : List (Option Value)} {st : List Value} {μ : MI} {pc : Nat} (hC : CX Γ cc own L d nL0) {z : Fin 4} {x : Int32} (hd : decode cc pc = .ok (.iload_n z, 1)) (h : lv[(z : Nat)]? = some (some (.int x))) (kk : GX Γ L k n lv (.int x :: st) μ (pc + 1)) : GX Γ L k n lv st μ pc := by
  obtain ⟨p, l, e, R, s, m, args, below, meth, c, Q, H0, dC, dI, Y, ad, A, nL⟩ := Γ
  obtain ⟨hx, hb, hml, hown, hts, hK, hA, hd1, hd2, hnl⟩ := hC
  intro H locs ls hP hS hl
  exact lv_iload_n hx hb hd rfl (hl.at h) (kk H locs ls hP hS hl)

theorem GX_iload {Γ : GT} {cc : ByteArray} {own : String} {L : LY} {d nL0 k n : Nat} {lv : List (Option Value)} {st : List Value} {μ : MI} {pc : Nat} (hC : CX Γ cc own L d nL0) {z : Nat} {x : Int32} (hd : decode cc pc = .ok (.iload z, 2)) (h : lv[z]? = some (some (.int x))) (kk : GX Γ L k n lv (.int x :: st) μ (pc + 2)) : GX Γ L k n lv st μ pc := by
  obtain ⟨p, l, e, R, s, m, args, below, meth, c, Q, H0, dC, dI, Y, ad, A, nL⟩ := Γ
  obtain ⟨hx, hb, hml, hown, hts, hK, hA, hd1, hd2, hnl⟩ := hC
  intro H locs ls hP hS hl
  exact lv_iload hx hb hd (hl.at h) (kk H locs ls hP hS hl)

theorem GX_istore_n {Γ : GT} {cc : ByteArray} {own : String} {L : LY} {d nL0 k n : Nat} {lv : List (Option Value)} {st : List Value} {μ : MI} {pc : Nat} (hC : CX Γ cc own L d nL0) {z : Fin 4} {x : Int32} (lv' : List (Option Value)) (hd : decode cc pc = .ok (.istore_n z, 1)) (hn : (z : Nat) < nL0) (hok : lvOk lv z = true) (h : lv.set z (some (.int x)) = lv') (kk : GX Γ L k n lv' st μ (pc + 1)) : GX Γ L k n lv (.int x :: st) μ pc := by
  obtain ⟨p, l, e, R, s, m, args, below, meth, c, Q, H0, dC, dI, Y, ad, A, nL⟩ := Γ
  obtain ⟨hx, hb, hml, hown, hts, hK, hA, hd1, hd2, hnl⟩ := hC
  intro H locs ls hP hS hl
  subst h; subst hnl; exact lv_istore_n hx hb hd rfl hl hn rfl (fun ls' hl' => kk H locs ls' hP hS (lvh_set hok hl'))

theorem GX_istore {Γ : GT} {cc : ByteArray} {own : String} {L : LY} {d nL0 k n : Nat} {lv : List (Option Value)} {st : List Value} {μ : MI} {pc : Nat} (hC : CX Γ cc own L d nL0) {z : Nat} {x : Int32} (lv' : List (Option Value)) (hd : decode cc pc = .ok (.istore z, 2)) (hn : z < nL0) (hok : lvOk lv z = true) (h : lv.set z (some (.int x)) = lv') (kk : GX Γ L k n lv' st μ (pc + 2)) : GX Γ L k n lv (.int x :: st) μ pc := by
  obtain ⟨p, l, e, R, s, m, args, below, meth, c, Q, H0, dC, dI, Y, ad, A, nL⟩ := Γ
  obtain ⟨hx, hb, hml, hown, hts, hK, hA, hd1, hd2, hnl⟩ := hC
  intro H locs ls hP hS hl
  subst h; subst hnl; exact lv_istore hx hb hd hl hn rfl (fun ls' hl' => kk H locs ls' hP hS (lvh_set hok hl'))

theorem GX_lload_n {Γ : GT} {cc : ByteArray} {own : String} {L : LY} {d nL0 k n : Nat} {lv : List (Option Value)} {st : List Value} {μ : MI} {pc : Nat} (hC : CX Γ cc own L d nL0) {z : Fin 4} {x : Int64} (hd : decode cc pc = .ok (.lload_n z, 1)) (h : lv[(z : Nat)]? = some (some (.long x))) (kk : GX Γ L k n lv (.long x :: st) μ (pc + 1)) : GX Γ L k n lv st μ pc := by
  obtain ⟨p, l, e, R, s, m, args, below, meth, c, Q, H0, dC, dI, Y, ad, A, nL⟩ := Γ
  obtain ⟨hx, hb, hml, hown, hts, hK, hA, hd1, hd2, hnl⟩ := hC
  intro H locs ls hP hS hl
  exact lv_lload_n hx hb hd rfl (hl.at h) (kk H locs ls hP hS hl)

theorem GX_lload {Γ : GT} {cc : ByteArray} {own : String} {L : LY} {d nL0 k n : Nat} {lv : List (Option Value)} {st : List Value} {μ : MI} {pc : Nat} (hC : CX Γ cc own L d nL0) {z : Nat} {x : Int64} (hd : decode cc pc = .ok (.lload z, 2)) (h : lv[z]? = some (some (.long x))) (kk : GX Γ L k n lv (.long x :: st) μ (pc + 2)) : GX Γ L k n lv st μ pc := by
  obtain ⟨p, l, e, R, s, m, args, below, meth, c, Q, H0, dC, dI, Y, ad, A, nL⟩ := Γ
  obtain ⟨hx, hb, hml, hown, hts, hK, hA, hd1, hd2, hnl⟩ := hC
  intro H locs ls hP hS hl
  exact lv_lload hx hb hd (hl.at h) (kk H locs ls hP hS hl)

theorem GX_lstore_n {Γ : GT} {cc : ByteArray} {own : String} {L : LY} {d nL0 k n : Nat} {lv : List (Option Value)} {st : List Value} {μ : MI} {pc : Nat} (hC : CX Γ cc own L d nL0) {z : Fin 4} {x : Int64} (lv' : List (Option Value)) (hd : decode cc pc = .ok (.lstore_n z, 1)) (hn : (z : Nat) + 1 < nL0) (hok : lvOk lv z = true) (hz : lv[(z : Nat) + 1]? = some none) (h : lv.set z (some (.long x)) = lv') (kk : GX Γ L k n lv' st μ (pc + 1)) : GX Γ L k n lv (.long x :: st) μ pc := by
  obtain ⟨p, l, e, R, s, m, args, below, meth, c, Q, H0, dC, dI, Y, ad, A, nL⟩ := Γ
  obtain ⟨hx, hb, hml, hown, hts, hK, hA, hd1, hd2, hnl⟩ := hC
  intro H locs ls hP hS hl
  subst h; subst hnl; exact lv_lstore_n hx hb hd rfl hl hn rfl (fun ls' hl' => kk H locs ls' hP hS (lvh_set2 hok hz hl'))

theorem GX_lstore {Γ : GT} {cc : ByteArray} {own : String} {L : LY} {d nL0 k n : Nat} {lv : List (Option Value)} {st : List Value} {μ : MI} {pc : Nat} (hC : CX Γ cc own L d nL0) {z : Nat} {x : Int64} (lv' : List (Option Value)) (hd : decode cc pc = .ok (.lstore z, 2)) (hn : z + 1 < nL0) (hok : lvOk lv z = true) (hz : lv[z + 1]? = some none) (h : lv.set z (some (.long x)) = lv') (kk : GX Γ L k n lv' st μ (pc + 2)) : GX Γ L k n lv (.long x :: st) μ pc := by
  obtain ⟨p, l, e, R, s, m, args, below, meth, c, Q, H0, dC, dI, Y, ad, A, nL⟩ := Γ
  obtain ⟨hx, hb, hml, hown, hts, hK, hA, hd1, hd2, hnl⟩ := hC
  intro H locs ls hP hS hl
  subst h; subst hnl; exact lv_lstore hx hb hd hl hn rfl (fun ls' hl' => kk H locs ls' hP hS (lvh_set2 hok hz hl'))

theorem GX_aload_n {Γ : GT} {cc : ByteArray} {own : String} {L : LY} {d nL0 k n : Nat} {lv : List (Option Value)} {st : List Value} {μ : MI} {pc : Nat} (hC : CX Γ cc own L d nL0) {z : Fin 4} {x : Nat} (hd : decode cc pc = .ok (.aload_n z, 1)) (h : lv[(z : Nat)]? = some (some (.ref x))) (kk : GX Γ L k n lv (.ref x :: st) μ (pc + 1)) : GX Γ L k n lv st μ pc := by
  obtain ⟨p, l, e, R, s, m, args, below, meth, c, Q, H0, dC, dI, Y, ad, A, nL⟩ := Γ
  obtain ⟨hx, hb, hml, hown, hts, hK, hA, hd1, hd2, hnl⟩ := hC
  intro H locs ls hP hS hl
  exact lv_aload_n hx hb hd rfl (hl.at h) (kk H locs ls hP hS hl)

theorem GX_aload {Γ : GT} {cc : ByteArray} {own : String} {L : LY} {d nL0 k n : Nat} {lv : List (Option Value)} {st : List Value} {μ : MI} {pc : Nat} (hC : CX Γ cc own L d nL0) {z : Nat} {x : Nat} (hd : decode cc pc = .ok (.aload z, 2)) (h : lv[z]? = some (some (.ref x))) (kk : GX Γ L k n lv (.ref x :: st) μ (pc + 2)) : GX Γ L k n lv st μ pc := by
  obtain ⟨p, l, e, R, s, m, args, below, meth, c, Q, H0, dC, dI, Y, ad, A, nL⟩ := Γ
  obtain ⟨hx, hb, hml, hown, hts, hK, hA, hd1, hd2, hnl⟩ := hC
  intro H locs ls hP hS hl
  exact lv_aload hx hb hd (hl.at h) (kk H locs ls hP hS hl)

theorem GX_astore_n {Γ : GT} {cc : ByteArray} {own : String} {L : LY} {d nL0 k n : Nat} {lv : List (Option Value)} {st : List Value} {μ : MI} {pc : Nat} (hC : CX Γ cc own L d nL0) {z : Fin 4} {x : Nat} (lv' : List (Option Value)) (hd : decode cc pc = .ok (.astore_n z, 1)) (hn : (z : Nat) < nL0) (hok : lvOk lv z = true) (h : lv.set z (some (.ref x)) = lv') (kk : GX Γ L k n lv' st μ (pc + 1)) : GX Γ L k n lv (.ref x :: st) μ pc := by
  obtain ⟨p, l, e, R, s, m, args, below, meth, c, Q, H0, dC, dI, Y, ad, A, nL⟩ := Γ
  obtain ⟨hx, hb, hml, hown, hts, hK, hA, hd1, hd2, hnl⟩ := hC
  intro H locs ls hP hS hl
  subst h; subst hnl; exact lv_astore_n hx hb hd rfl hl hn rfl (fun ls' hl' => kk H locs ls' hP hS (lvh_set hok hl'))

theorem GX_astore {Γ : GT} {cc : ByteArray} {own : String} {L : LY} {d nL0 k n : Nat} {lv : List (Option Value)} {st : List Value} {μ : MI} {pc : Nat} (hC : CX Γ cc own L d nL0) {z : Nat} {x : Nat} (lv' : List (Option Value)) (hd : decode cc pc = .ok (.astore z, 2)) (hn : z < nL0) (hok : lvOk lv z = true) (h : lv.set z (some (.ref x)) = lv') (kk : GX Γ L k n lv' st μ (pc + 2)) : GX Γ L k n lv (.ref x :: st) μ pc := by
  obtain ⟨p, l, e, R, s, m, args, below, meth, c, Q, H0, dC, dI, Y, ad, A, nL⟩ := Γ
  obtain ⟨hx, hb, hml, hown, hts, hK, hA, hd1, hd2, hnl⟩ := hC
  intro H locs ls hP hS hl
  subst h; subst hnl; exact lv_astore hx hb hd hl hn rfl (fun ls' hl' => kk H locs ls' hP hS (lvh_set hok hl'))

theorem lvE_pos : ∀ (lv : List (Option Value)) (k i : Nat) (v : Value), lv[i]? = some (some v) → ∃ q : Nat, (lvE k lv)[q]? = some (k + i, v) := fun lv k i v h => by
  obtain ⟨q, hq⟩ := List.getElem?_of_mem (lvE_mem lv k i v h)
  exact ⟨q, hq⟩
theorem GX_iinc {Γ : GT} {cc : ByteArray} {own : String} {L : LY} {d nL0 k n : Nat} {lv : List (Option Value)} {st : List Value} {μ : MI} {pc : Nat} (hC : CX Γ cc own L d nL0) {z : Nat} {q : Int} {x : Int32} (v : Int32) (lv' : List (Option Value)) (hd : decode cc pc = .ok (.iinc z q, 3)) (h0 : lv[z]? = some (some (.int x))) (hv : x + Int32.ofInt q = v) (hn : z < nL0) (hok : lvOk lv z = true) (h : lv.set z (some (.int v)) = lv') (kk : GX Γ L k n lv' st μ (pc + 3)) : GX Γ L k n lv st μ pc := by
  obtain ⟨p, l, e, R, s, m, args, below, meth, c, Q, H0, dC, dI, Y, ad, A, nL⟩ := Γ
  obtain ⟨hx, hb, hml, hown, hts, hK, hA, hd1, hd2, hnl⟩ := hC
  intro H locs ls hP hS hl
  subst h; subst hnl
  obtain ⟨q0, hq0⟩ := lvE_pos lv 0 z _ h0
  rw [Nat.zero_add] at hq0
  exact lv_iinc hx hb hd hl hq0 hv hn rfl (fun ls' hl' => kk H locs ls' hP hS (lvh_set hok hl'))

theorem i32_le_nlt {x y : Int32} : x ≤ y ↔ ¬ y < x := by rw [Int32.le_iff_toInt_le, Int32.lt_iff_toInt_lt]; omega
theorem i32_lt_nle {x y : Int32} : x < y ↔ ¬ y ≤ x := by rw [Int32.le_iff_toInt_le, Int32.lt_iff_toInt_lt]; omega
theorem GX_icmp_eq_P {Γ : GT} {cc : ByteArray} {own : String} {L : LY} {d nL0 k n : Nat} {lv : List (Option Value)} {st : List Value} {μ : MI} {pc : Nat} (hC : CX Γ cc own L d nL0) {x y : Int32} {off : Int} (tgt : Nat) (hd : decode cc pc = .ok (.if_icmp .eq off, 3)) (ht : (pc : Int) + off = (tgt : Int)) (kt : x = y → GX Γ L k n lv st μ tgt) (kf : ¬ (x = y) → GX Γ L k n lv st μ (pc + 3)) : GX Γ L k n lv (.int y :: .int x :: st) μ pc := by
  obtain ⟨p, l, e, R, s, m, args, below, meth, c, Q, H0, dC, dI, Y, ad, A, nL⟩ := Γ
  obtain ⟨hx, hb, hml, hown, hts, hK, hA, hd1, hd2, hnl⟩ := hC
  intro H locs ls hP hS hl
  exact lv_icmp_eq hx hb hd ht (fun hq => kt (by first | exact hq | exact i32_le_nlt.mpr hq | exact i32_lt_nle.mpr hq | exact i32_le_nlt.mp hq | exact i32_lt_nle.mp hq | exact Classical.not_not.mp hq | exact fun h9 => hq h9 | exact fun h9 => h9 hq | (intro h9; exact absurd hq (i32_le_nlt.mp h9)) | (intro h9; exact absurd hq (i32_lt_nle.mp h9)) | (intro h9; exact absurd h9 (i32_le_nlt.mp hq)) | (intro h9; exact absurd h9 (i32_lt_nle.mp hq))) H locs ls hP hS hl) (fun hq => kf (by first | exact hq | exact i32_le_nlt.mpr hq | exact i32_lt_nle.mpr hq | exact i32_le_nlt.mp hq | exact i32_lt_nle.mp hq | exact Classical.not_not.mp hq | exact fun h9 => hq h9 | exact fun h9 => h9 hq | (intro h9; exact absurd hq (i32_le_nlt.mp h9)) | (intro h9; exact absurd hq (i32_lt_nle.mp h9)) | (intro h9; exact absurd h9 (i32_le_nlt.mp hq)) | (intro h9; exact absurd h9 (i32_lt_nle.mp hq))) H locs ls hP hS hl)

theorem GX_icmp_eq_N {Γ : GT} {cc : ByteArray} {own : String} {L : LY} {d nL0 k n : Nat} {lv : List (Option Value)} {st : List Value} {μ : MI} {pc : Nat} (hC : CX Γ cc own L d nL0) {x y : Int32} {off : Int} (tgt : Nat) (hd : decode cc pc = .ok (.if_icmp .eq off, 3)) (ht : (pc : Int) + off = (tgt : Int)) (kt : x ≠ y → GX Γ L k n lv st μ (pc + 3)) (kf : ¬ (x ≠ y) → GX Γ L k n lv st μ tgt) : GX Γ L k n lv (.int y :: .int x :: st) μ pc := by
  obtain ⟨p, l, e, R, s, m, args, below, meth, c, Q, H0, dC, dI, Y, ad, A, nL⟩ := Γ
  obtain ⟨hx, hb, hml, hown, hts, hK, hA, hd1, hd2, hnl⟩ := hC
  intro H locs ls hP hS hl
  exact lv_icmp_eq hx hb hd ht (fun hq => kf (by first | exact hq | exact i32_le_nlt.mpr hq | exact i32_lt_nle.mpr hq | exact i32_le_nlt.mp hq | exact i32_lt_nle.mp hq | exact Classical.not_not.mp hq | exact fun h9 => hq h9 | exact fun h9 => h9 hq | (intro h9; exact absurd hq (i32_le_nlt.mp h9)) | (intro h9; exact absurd hq (i32_lt_nle.mp h9)) | (intro h9; exact absurd h9 (i32_le_nlt.mp hq)) | (intro h9; exact absurd h9 (i32_lt_nle.mp hq))) H locs ls hP hS hl) (fun hq => kt (by first | exact hq | exact i32_le_nlt.mpr hq | exact i32_lt_nle.mpr hq | exact i32_le_nlt.mp hq | exact i32_lt_nle.mp hq | exact Classical.not_not.mp hq | exact fun h9 => hq h9 | exact fun h9 => h9 hq | (intro h9; exact absurd hq (i32_le_nlt.mp h9)) | (intro h9; exact absurd hq (i32_lt_nle.mp h9)) | (intro h9; exact absurd h9 (i32_le_nlt.mp hq)) | (intro h9; exact absurd h9 (i32_lt_nle.mp hq))) H locs ls hP hS hl)

theorem GX_if_eq_P {Γ : GT} {cc : ByteArray} {own : String} {L : LY} {d nL0 k n : Nat} {lv : List (Option Value)} {st : List Value} {μ : MI} {pc : Nat} (hC : CX Γ cc own L d nL0) {x : Int32} {off : Int} (tgt : Nat) (hd : decode cc pc = .ok (.ifCond .eq off, 3)) (ht : (pc : Int) + off = (tgt : Int)) (kt : x = 0 → GX Γ L k n lv st μ tgt) (kf : ¬ (x = 0) → GX Γ L k n lv st μ (pc + 3)) : GX Γ L k n lv (.int x :: st) μ pc := by
  obtain ⟨p, l, e, R, s, m, args, below, meth, c, Q, H0, dC, dI, Y, ad, A, nL⟩ := Γ
  obtain ⟨hx, hb, hml, hown, hts, hK, hA, hd1, hd2, hnl⟩ := hC
  intro H locs ls hP hS hl
  exact lv_if_eq hx hb hd ht (fun hq => kt (by first | exact hq | exact i32_le_nlt.mpr hq | exact i32_lt_nle.mpr hq | exact i32_le_nlt.mp hq | exact i32_lt_nle.mp hq | exact Classical.not_not.mp hq | exact fun h9 => hq h9 | exact fun h9 => h9 hq | (intro h9; exact absurd hq (i32_le_nlt.mp h9)) | (intro h9; exact absurd hq (i32_lt_nle.mp h9)) | (intro h9; exact absurd h9 (i32_le_nlt.mp hq)) | (intro h9; exact absurd h9 (i32_lt_nle.mp hq))) H locs ls hP hS hl) (fun hq => kf (by first | exact hq | exact i32_le_nlt.mpr hq | exact i32_lt_nle.mpr hq | exact i32_le_nlt.mp hq | exact i32_lt_nle.mp hq | exact Classical.not_not.mp hq | exact fun h9 => hq h9 | exact fun h9 => h9 hq | (intro h9; exact absurd hq (i32_le_nlt.mp h9)) | (intro h9; exact absurd hq (i32_lt_nle.mp h9)) | (intro h9; exact absurd h9 (i32_le_nlt.mp hq)) | (intro h9; exact absurd h9 (i32_lt_nle.mp hq))) H locs ls hP hS hl)

theorem GX_if_eq_N {Γ : GT} {cc : ByteArray} {own : String} {L : LY} {d nL0 k n : Nat} {lv : List (Option Value)} {st : List Value} {μ : MI} {pc : Nat} (hC : CX Γ cc own L d nL0) {x : Int32} {off : Int} (tgt : Nat) (hd : decode cc pc = .ok (.ifCond .eq off, 3)) (ht : (pc : Int) + off = (tgt : Int)) (kt : x ≠ 0 → GX Γ L k n lv st μ (pc + 3)) (kf : ¬ (x ≠ 0) → GX Γ L k n lv st μ tgt) : GX Γ L k n lv (.int x :: st) μ pc := by
  obtain ⟨p, l, e, R, s, m, args, below, meth, c, Q, H0, dC, dI, Y, ad, A, nL⟩ := Γ
  obtain ⟨hx, hb, hml, hown, hts, hK, hA, hd1, hd2, hnl⟩ := hC
  intro H locs ls hP hS hl
  exact lv_if_eq hx hb hd ht (fun hq => kf (by first | exact hq | exact i32_le_nlt.mpr hq | exact i32_lt_nle.mpr hq | exact i32_le_nlt.mp hq | exact i32_lt_nle.mp hq | exact Classical.not_not.mp hq | exact fun h9 => hq h9 | exact fun h9 => h9 hq | (intro h9; exact absurd hq (i32_le_nlt.mp h9)) | (intro h9; exact absurd hq (i32_lt_nle.mp h9)) | (intro h9; exact absurd h9 (i32_le_nlt.mp hq)) | (intro h9; exact absurd h9 (i32_lt_nle.mp hq))) H locs ls hP hS hl) (fun hq => kt (by first | exact hq | exact i32_le_nlt.mpr hq | exact i32_lt_nle.mpr hq | exact i32_le_nlt.mp hq | exact i32_lt_nle.mp hq | exact Classical.not_not.mp hq | exact fun h9 => hq h9 | exact fun h9 => h9 hq | (intro h9; exact absurd hq (i32_le_nlt.mp h9)) | (intro h9; exact absurd hq (i32_lt_nle.mp h9)) | (intro h9; exact absurd h9 (i32_le_nlt.mp hq)) | (intro h9; exact absurd h9 (i32_lt_nle.mp hq))) H locs ls hP hS hl)

theorem GX_icmp_ne_P {Γ : GT} {cc : ByteArray} {own : String} {L : LY} {d nL0 k n : Nat} {lv : List (Option Value)} {st : List Value} {μ : MI} {pc : Nat} (hC : CX Γ cc own L d nL0) {x y : Int32} {off : Int} (tgt : Nat) (hd : decode cc pc = .ok (.if_icmp .ne off, 3)) (ht : (pc : Int) + off = (tgt : Int)) (kt : x ≠ y → GX Γ L k n lv st μ tgt) (kf : ¬ (x ≠ y) → GX Γ L k n lv st μ (pc + 3)) : GX Γ L k n lv (.int y :: .int x :: st) μ pc := by
  obtain ⟨p, l, e, R, s, m, args, below, meth, c, Q, H0, dC, dI, Y, ad, A, nL⟩ := Γ
  obtain ⟨hx, hb, hml, hown, hts, hK, hA, hd1, hd2, hnl⟩ := hC
  intro H locs ls hP hS hl
  exact lv_icmp_ne hx hb hd ht (fun hq => kt (by first | exact hq | exact i32_le_nlt.mpr hq | exact i32_lt_nle.mpr hq | exact i32_le_nlt.mp hq | exact i32_lt_nle.mp hq | exact Classical.not_not.mp hq | exact fun h9 => hq h9 | exact fun h9 => h9 hq | (intro h9; exact absurd hq (i32_le_nlt.mp h9)) | (intro h9; exact absurd hq (i32_lt_nle.mp h9)) | (intro h9; exact absurd h9 (i32_le_nlt.mp hq)) | (intro h9; exact absurd h9 (i32_lt_nle.mp hq))) H locs ls hP hS hl) (fun hq => kf (by first | exact hq | exact i32_le_nlt.mpr hq | exact i32_lt_nle.mpr hq | exact i32_le_nlt.mp hq | exact i32_lt_nle.mp hq | exact Classical.not_not.mp hq | exact fun h9 => hq h9 | exact fun h9 => h9 hq | (intro h9; exact absurd hq (i32_le_nlt.mp h9)) | (intro h9; exact absurd hq (i32_lt_nle.mp h9)) | (intro h9; exact absurd h9 (i32_le_nlt.mp hq)) | (intro h9; exact absurd h9 (i32_lt_nle.mp hq))) H locs ls hP hS hl)

theorem GX_icmp_ne_N {Γ : GT} {cc : ByteArray} {own : String} {L : LY} {d nL0 k n : Nat} {lv : List (Option Value)} {st : List Value} {μ : MI} {pc : Nat} (hC : CX Γ cc own L d nL0) {x y : Int32} {off : Int} (tgt : Nat) (hd : decode cc pc = .ok (.if_icmp .ne off, 3)) (ht : (pc : Int) + off = (tgt : Int)) (kt : x = y → GX Γ L k n lv st μ (pc + 3)) (kf : ¬ (x = y) → GX Γ L k n lv st μ tgt) : GX Γ L k n lv (.int y :: .int x :: st) μ pc := by
  obtain ⟨p, l, e, R, s, m, args, below, meth, c, Q, H0, dC, dI, Y, ad, A, nL⟩ := Γ
  obtain ⟨hx, hb, hml, hown, hts, hK, hA, hd1, hd2, hnl⟩ := hC
  intro H locs ls hP hS hl
  exact lv_icmp_ne hx hb hd ht (fun hq => kf (by first | exact hq | exact i32_le_nlt.mpr hq | exact i32_lt_nle.mpr hq | exact i32_le_nlt.mp hq | exact i32_lt_nle.mp hq | exact Classical.not_not.mp hq | exact fun h9 => hq h9 | exact fun h9 => h9 hq | (intro h9; exact absurd hq (i32_le_nlt.mp h9)) | (intro h9; exact absurd hq (i32_lt_nle.mp h9)) | (intro h9; exact absurd h9 (i32_le_nlt.mp hq)) | (intro h9; exact absurd h9 (i32_lt_nle.mp hq))) H locs ls hP hS hl) (fun hq => kt (by first | exact hq | exact i32_le_nlt.mpr hq | exact i32_lt_nle.mpr hq | exact i32_le_nlt.mp hq | exact i32_lt_nle.mp hq | exact Classical.not_not.mp hq | exact fun h9 => hq h9 | exact fun h9 => h9 hq | (intro h9; exact absurd hq (i32_le_nlt.mp h9)) | (intro h9; exact absurd hq (i32_lt_nle.mp h9)) | (intro h9; exact absurd h9 (i32_le_nlt.mp hq)) | (intro h9; exact absurd h9 (i32_lt_nle.mp hq))) H locs ls hP hS hl)

theorem GX_if_ne_P {Γ : GT} {cc : ByteArray} {own : String} {L : LY} {d nL0 k n : Nat} {lv : List (Option Value)} {st : List Value} {μ : MI} {pc : Nat} (hC : CX Γ cc own L d nL0) {x : Int32} {off : Int} (tgt : Nat) (hd : decode cc pc = .ok (.ifCond .ne off, 3)) (ht : (pc : Int) + off = (tgt : Int)) (kt : x ≠ 0 → GX Γ L k n lv st μ tgt) (kf : ¬ (x ≠ 0) → GX Γ L k n lv st μ (pc + 3)) : GX Γ L k n lv (.int x :: st) μ pc := by
  obtain ⟨p, l, e, R, s, m, args, below, meth, c, Q, H0, dC, dI, Y, ad, A, nL⟩ := Γ
  obtain ⟨hx, hb, hml, hown, hts, hK, hA, hd1, hd2, hnl⟩ := hC
  intro H locs ls hP hS hl
  exact lv_if_ne hx hb hd ht (fun hq => kt (by first | exact hq | exact i32_le_nlt.mpr hq | exact i32_lt_nle.mpr hq | exact i32_le_nlt.mp hq | exact i32_lt_nle.mp hq | exact Classical.not_not.mp hq | exact fun h9 => hq h9 | exact fun h9 => h9 hq | (intro h9; exact absurd hq (i32_le_nlt.mp h9)) | (intro h9; exact absurd hq (i32_lt_nle.mp h9)) | (intro h9; exact absurd h9 (i32_le_nlt.mp hq)) | (intro h9; exact absurd h9 (i32_lt_nle.mp hq))) H locs ls hP hS hl) (fun hq => kf (by first | exact hq | exact i32_le_nlt.mpr hq | exact i32_lt_nle.mpr hq | exact i32_le_nlt.mp hq | exact i32_lt_nle.mp hq | exact Classical.not_not.mp hq | exact fun h9 => hq h9 | exact fun h9 => h9 hq | (intro h9; exact absurd hq (i32_le_nlt.mp h9)) | (intro h9; exact absurd hq (i32_lt_nle.mp h9)) | (intro h9; exact absurd h9 (i32_le_nlt.mp hq)) | (intro h9; exact absurd h9 (i32_lt_nle.mp hq))) H locs ls hP hS hl)

theorem GX_if_ne_N {Γ : GT} {cc : ByteArray} {own : String} {L : LY} {d nL0 k n : Nat} {lv : List (Option Value)} {st : List Value} {μ : MI} {pc : Nat} (hC : CX Γ cc own L d nL0) {x : Int32} {off : Int} (tgt : Nat) (hd : decode cc pc = .ok (.ifCond .ne off, 3)) (ht : (pc : Int) + off = (tgt : Int)) (kt : x = 0 → GX Γ L k n lv st μ (pc + 3)) (kf : ¬ (x = 0) → GX Γ L k n lv st μ tgt) : GX Γ L k n lv (.int x :: st) μ pc := by
  obtain ⟨p, l, e, R, s, m, args, below, meth, c, Q, H0, dC, dI, Y, ad, A, nL⟩ := Γ
  obtain ⟨hx, hb, hml, hown, hts, hK, hA, hd1, hd2, hnl⟩ := hC
  intro H locs ls hP hS hl
  exact lv_if_ne hx hb hd ht (fun hq => kf (by first | exact hq | exact i32_le_nlt.mpr hq | exact i32_lt_nle.mpr hq | exact i32_le_nlt.mp hq | exact i32_lt_nle.mp hq | exact Classical.not_not.mp hq | exact fun h9 => hq h9 | exact fun h9 => h9 hq | (intro h9; exact absurd hq (i32_le_nlt.mp h9)) | (intro h9; exact absurd hq (i32_lt_nle.mp h9)) | (intro h9; exact absurd h9 (i32_le_nlt.mp hq)) | (intro h9; exact absurd h9 (i32_lt_nle.mp hq))) H locs ls hP hS hl) (fun hq => kt (by first | exact hq | exact i32_le_nlt.mpr hq | exact i32_lt_nle.mpr hq | exact i32_le_nlt.mp hq | exact i32_lt_nle.mp hq | exact Classical.not_not.mp hq | exact fun h9 => hq h9 | exact fun h9 => h9 hq | (intro h9; exact absurd hq (i32_le_nlt.mp h9)) | (intro h9; exact absurd hq (i32_lt_nle.mp h9)) | (intro h9; exact absurd h9 (i32_le_nlt.mp hq)) | (intro h9; exact absurd h9 (i32_lt_nle.mp hq))) H locs ls hP hS hl)

theorem GX_icmp_lt_P {Γ : GT} {cc : ByteArray} {own : String} {L : LY} {d nL0 k n : Nat} {lv : List (Option Value)} {st : List Value} {μ : MI} {pc : Nat} (hC : CX Γ cc own L d nL0) {x y : Int32} {off : Int} (tgt : Nat) (hd : decode cc pc = .ok (.if_icmp .lt off, 3)) (ht : (pc : Int) + off = (tgt : Int)) (kt : x < y → GX Γ L k n lv st μ tgt) (kf : ¬ (x < y) → GX Γ L k n lv st μ (pc + 3)) : GX Γ L k n lv (.int y :: .int x :: st) μ pc := by
  obtain ⟨p, l, e, R, s, m, args, below, meth, c, Q, H0, dC, dI, Y, ad, A, nL⟩ := Γ
  obtain ⟨hx, hb, hml, hown, hts, hK, hA, hd1, hd2, hnl⟩ := hC
  intro H locs ls hP hS hl
  exact lv_icmp_lt hx hb hd ht (fun hq => kt (by first | exact hq | exact i32_le_nlt.mpr hq | exact i32_lt_nle.mpr hq | exact i32_le_nlt.mp hq | exact i32_lt_nle.mp hq | exact Classical.not_not.mp hq | exact fun h9 => hq h9 | exact fun h9 => h9 hq | (intro h9; exact absurd hq (i32_le_nlt.mp h9)) | (intro h9; exact absurd hq (i32_lt_nle.mp h9)) | (intro h9; exact absurd h9 (i32_le_nlt.mp hq)) | (intro h9; exact absurd h9 (i32_lt_nle.mp hq))) H locs ls hP hS hl) (fun hq => kf (by first | exact hq | exact i32_le_nlt.mpr hq | exact i32_lt_nle.mpr hq | exact i32_le_nlt.mp hq | exact i32_lt_nle.mp hq | exact Classical.not_not.mp hq | exact fun h9 => hq h9 | exact fun h9 => h9 hq | (intro h9; exact absurd hq (i32_le_nlt.mp h9)) | (intro h9; exact absurd hq (i32_lt_nle.mp h9)) | (intro h9; exact absurd h9 (i32_le_nlt.mp hq)) | (intro h9; exact absurd h9 (i32_lt_nle.mp hq))) H locs ls hP hS hl)

theorem GX_icmp_lt_N {Γ : GT} {cc : ByteArray} {own : String} {L : LY} {d nL0 k n : Nat} {lv : List (Option Value)} {st : List Value} {μ : MI} {pc : Nat} (hC : CX Γ cc own L d nL0) {x y : Int32} {off : Int} (tgt : Nat) (hd : decode cc pc = .ok (.if_icmp .lt off, 3)) (ht : (pc : Int) + off = (tgt : Int)) (kt : y ≤ x → GX Γ L k n lv st μ (pc + 3)) (kf : ¬ (y ≤ x) → GX Γ L k n lv st μ tgt) : GX Γ L k n lv (.int y :: .int x :: st) μ pc := by
  obtain ⟨p, l, e, R, s, m, args, below, meth, c, Q, H0, dC, dI, Y, ad, A, nL⟩ := Γ
  obtain ⟨hx, hb, hml, hown, hts, hK, hA, hd1, hd2, hnl⟩ := hC
  intro H locs ls hP hS hl
  exact lv_icmp_lt hx hb hd ht (fun hq => kf (by first | exact hq | exact i32_le_nlt.mpr hq | exact i32_lt_nle.mpr hq | exact i32_le_nlt.mp hq | exact i32_lt_nle.mp hq | exact Classical.not_not.mp hq | exact fun h9 => hq h9 | exact fun h9 => h9 hq | (intro h9; exact absurd hq (i32_le_nlt.mp h9)) | (intro h9; exact absurd hq (i32_lt_nle.mp h9)) | (intro h9; exact absurd h9 (i32_le_nlt.mp hq)) | (intro h9; exact absurd h9 (i32_lt_nle.mp hq))) H locs ls hP hS hl) (fun hq => kt (by first | exact hq | exact i32_le_nlt.mpr hq | exact i32_lt_nle.mpr hq | exact i32_le_nlt.mp hq | exact i32_lt_nle.mp hq | exact Classical.not_not.mp hq | exact fun h9 => hq h9 | exact fun h9 => h9 hq | (intro h9; exact absurd hq (i32_le_nlt.mp h9)) | (intro h9; exact absurd hq (i32_lt_nle.mp h9)) | (intro h9; exact absurd h9 (i32_le_nlt.mp hq)) | (intro h9; exact absurd h9 (i32_lt_nle.mp hq))) H locs ls hP hS hl)

theorem GX_if_lt_P {Γ : GT} {cc : ByteArray} {own : String} {L : LY} {d nL0 k n : Nat} {lv : List (Option Value)} {st : List Value} {μ : MI} {pc : Nat} (hC : CX Γ cc own L d nL0) {x : Int32} {off : Int} (tgt : Nat) (hd : decode cc pc = .ok (.ifCond .lt off, 3)) (ht : (pc : Int) + off = (tgt : Int)) (kt : x < 0 → GX Γ L k n lv st μ tgt) (kf : ¬ (x < 0) → GX Γ L k n lv st μ (pc + 3)) : GX Γ L k n lv (.int x :: st) μ pc := by
  obtain ⟨p, l, e, R, s, m, args, below, meth, c, Q, H0, dC, dI, Y, ad, A, nL⟩ := Γ
  obtain ⟨hx, hb, hml, hown, hts, hK, hA, hd1, hd2, hnl⟩ := hC
  intro H locs ls hP hS hl
  exact lv_if_lt hx hb hd ht (fun hq => kt (by first | exact hq | exact i32_le_nlt.mpr hq | exact i32_lt_nle.mpr hq | exact i32_le_nlt.mp hq | exact i32_lt_nle.mp hq | exact Classical.not_not.mp hq | exact fun h9 => hq h9 | exact fun h9 => h9 hq | (intro h9; exact absurd hq (i32_le_nlt.mp h9)) | (intro h9; exact absurd hq (i32_lt_nle.mp h9)) | (intro h9; exact absurd h9 (i32_le_nlt.mp hq)) | (intro h9; exact absurd h9 (i32_lt_nle.mp hq))) H locs ls hP hS hl) (fun hq => kf (by first | exact hq | exact i32_le_nlt.mpr hq | exact i32_lt_nle.mpr hq | exact i32_le_nlt.mp hq | exact i32_lt_nle.mp hq | exact Classical.not_not.mp hq | exact fun h9 => hq h9 | exact fun h9 => h9 hq | (intro h9; exact absurd hq (i32_le_nlt.mp h9)) | (intro h9; exact absurd hq (i32_lt_nle.mp h9)) | (intro h9; exact absurd h9 (i32_le_nlt.mp hq)) | (intro h9; exact absurd h9 (i32_lt_nle.mp hq))) H locs ls hP hS hl)

theorem GX_if_lt_N {Γ : GT} {cc : ByteArray} {own : String} {L : LY} {d nL0 k n : Nat} {lv : List (Option Value)} {st : List Value} {μ : MI} {pc : Nat} (hC : CX Γ cc own L d nL0) {x : Int32} {off : Int} (tgt : Nat) (hd : decode cc pc = .ok (.ifCond .lt off, 3)) (ht : (pc : Int) + off = (tgt : Int)) (kt : 0 ≤ x → GX Γ L k n lv st μ (pc + 3)) (kf : ¬ (0 ≤ x) → GX Γ L k n lv st μ tgt) : GX Γ L k n lv (.int x :: st) μ pc := by
  obtain ⟨p, l, e, R, s, m, args, below, meth, c, Q, H0, dC, dI, Y, ad, A, nL⟩ := Γ
  obtain ⟨hx, hb, hml, hown, hts, hK, hA, hd1, hd2, hnl⟩ := hC
  intro H locs ls hP hS hl
  exact lv_if_lt hx hb hd ht (fun hq => kf (by first | exact hq | exact i32_le_nlt.mpr hq | exact i32_lt_nle.mpr hq | exact i32_le_nlt.mp hq | exact i32_lt_nle.mp hq | exact Classical.not_not.mp hq | exact fun h9 => hq h9 | exact fun h9 => h9 hq | (intro h9; exact absurd hq (i32_le_nlt.mp h9)) | (intro h9; exact absurd hq (i32_lt_nle.mp h9)) | (intro h9; exact absurd h9 (i32_le_nlt.mp hq)) | (intro h9; exact absurd h9 (i32_lt_nle.mp hq))) H locs ls hP hS hl) (fun hq => kt (by first | exact hq | exact i32_le_nlt.mpr hq | exact i32_lt_nle.mpr hq | exact i32_le_nlt.mp hq | exact i32_lt_nle.mp hq | exact Classical.not_not.mp hq | exact fun h9 => hq h9 | exact fun h9 => h9 hq | (intro h9; exact absurd hq (i32_le_nlt.mp h9)) | (intro h9; exact absurd hq (i32_lt_nle.mp h9)) | (intro h9; exact absurd h9 (i32_le_nlt.mp hq)) | (intro h9; exact absurd h9 (i32_lt_nle.mp hq))) H locs ls hP hS hl)

theorem GX_icmp_ge_P {Γ : GT} {cc : ByteArray} {own : String} {L : LY} {d nL0 k n : Nat} {lv : List (Option Value)} {st : List Value} {μ : MI} {pc : Nat} (hC : CX Γ cc own L d nL0) {x y : Int32} {off : Int} (tgt : Nat) (hd : decode cc pc = .ok (.if_icmp .ge off, 3)) (ht : (pc : Int) + off = (tgt : Int)) (kt : y ≤ x → GX Γ L k n lv st μ tgt) (kf : ¬ (y ≤ x) → GX Γ L k n lv st μ (pc + 3)) : GX Γ L k n lv (.int y :: .int x :: st) μ pc := by
  obtain ⟨p, l, e, R, s, m, args, below, meth, c, Q, H0, dC, dI, Y, ad, A, nL⟩ := Γ
  obtain ⟨hx, hb, hml, hown, hts, hK, hA, hd1, hd2, hnl⟩ := hC
  intro H locs ls hP hS hl
  exact lv_icmp_ge hx hb hd ht (fun hq => kt (by first | exact hq | exact i32_le_nlt.mpr hq | exact i32_lt_nle.mpr hq | exact i32_le_nlt.mp hq | exact i32_lt_nle.mp hq | exact Classical.not_not.mp hq | exact fun h9 => hq h9 | exact fun h9 => h9 hq | (intro h9; exact absurd hq (i32_le_nlt.mp h9)) | (intro h9; exact absurd hq (i32_lt_nle.mp h9)) | (intro h9; exact absurd h9 (i32_le_nlt.mp hq)) | (intro h9; exact absurd h9 (i32_lt_nle.mp hq))) H locs ls hP hS hl) (fun hq => kf (by first | exact hq | exact i32_le_nlt.mpr hq | exact i32_lt_nle.mpr hq | exact i32_le_nlt.mp hq | exact i32_lt_nle.mp hq | exact Classical.not_not.mp hq | exact fun h9 => hq h9 | exact fun h9 => h9 hq | (intro h9; exact absurd hq (i32_le_nlt.mp h9)) | (intro h9; exact absurd hq (i32_lt_nle.mp h9)) | (intro h9; exact absurd h9 (i32_le_nlt.mp hq)) | (intro h9; exact absurd h9 (i32_lt_nle.mp hq))) H locs ls hP hS hl)

theorem GX_icmp_ge_N {Γ : GT} {cc : ByteArray} {own : String} {L : LY} {d nL0 k n : Nat} {lv : List (Option Value)} {st : List Value} {μ : MI} {pc : Nat} (hC : CX Γ cc own L d nL0) {x y : Int32} {off : Int} (tgt : Nat) (hd : decode cc pc = .ok (.if_icmp .ge off, 3)) (ht : (pc : Int) + off = (tgt : Int)) (kt : x < y → GX Γ L k n lv st μ (pc + 3)) (kf : ¬ (x < y) → GX Γ L k n lv st μ tgt) : GX Γ L k n lv (.int y :: .int x :: st) μ pc := by
  obtain ⟨p, l, e, R, s, m, args, below, meth, c, Q, H0, dC, dI, Y, ad, A, nL⟩ := Γ
  obtain ⟨hx, hb, hml, hown, hts, hK, hA, hd1, hd2, hnl⟩ := hC
  intro H locs ls hP hS hl
  exact lv_icmp_ge hx hb hd ht (fun hq => kf (by first | exact hq | exact i32_le_nlt.mpr hq | exact i32_lt_nle.mpr hq | exact i32_le_nlt.mp hq | exact i32_lt_nle.mp hq | exact Classical.not_not.mp hq | exact fun h9 => hq h9 | exact fun h9 => h9 hq | (intro h9; exact absurd hq (i32_le_nlt.mp h9)) | (intro h9; exact absurd hq (i32_lt_nle.mp h9)) | (intro h9; exact absurd h9 (i32_le_nlt.mp hq)) | (intro h9; exact absurd h9 (i32_lt_nle.mp hq))) H locs ls hP hS hl) (fun hq => kt (by first | exact hq | exact i32_le_nlt.mpr hq | exact i32_lt_nle.mpr hq | exact i32_le_nlt.mp hq | exact i32_lt_nle.mp hq | exact Classical.not_not.mp hq | exact fun h9 => hq h9 | exact fun h9 => h9 hq | (intro h9; exact absurd hq (i32_le_nlt.mp h9)) | (intro h9; exact absurd hq (i32_lt_nle.mp h9)) | (intro h9; exact absurd h9 (i32_le_nlt.mp hq)) | (intro h9; exact absurd h9 (i32_lt_nle.mp hq))) H locs ls hP hS hl)

theorem GX_if_ge_P {Γ : GT} {cc : ByteArray} {own : String} {L : LY} {d nL0 k n : Nat} {lv : List (Option Value)} {st : List Value} {μ : MI} {pc : Nat} (hC : CX Γ cc own L d nL0) {x : Int32} {off : Int} (tgt : Nat) (hd : decode cc pc = .ok (.ifCond .ge off, 3)) (ht : (pc : Int) + off = (tgt : Int)) (kt : 0 ≤ x → GX Γ L k n lv st μ tgt) (kf : ¬ (0 ≤ x) → GX Γ L k n lv st μ (pc + 3)) : GX Γ L k n lv (.int x :: st) μ pc := by
  obtain ⟨p, l, e, R, s, m, args, below, meth, c, Q, H0, dC, dI, Y, ad, A, nL⟩ := Γ
  obtain ⟨hx, hb, hml, hown, hts, hK, hA, hd1, hd2, hnl⟩ := hC
  intro H locs ls hP hS hl
  exact lv_if_ge hx hb hd ht (fun hq => kt (by first | exact hq | exact i32_le_nlt.mpr hq | exact i32_lt_nle.mpr hq | exact i32_le_nlt.mp hq | exact i32_lt_nle.mp hq | exact Classical.not_not.mp hq | exact fun h9 => hq h9 | exact fun h9 => h9 hq | (intro h9; exact absurd hq (i32_le_nlt.mp h9)) | (intro h9; exact absurd hq (i32_lt_nle.mp h9)) | (intro h9; exact absurd h9 (i32_le_nlt.mp hq)) | (intro h9; exact absurd h9 (i32_lt_nle.mp hq))) H locs ls hP hS hl) (fun hq => kf (by first | exact hq | exact i32_le_nlt.mpr hq | exact i32_lt_nle.mpr hq | exact i32_le_nlt.mp hq | exact i32_lt_nle.mp hq | exact Classical.not_not.mp hq | exact fun h9 => hq h9 | exact fun h9 => h9 hq | (intro h9; exact absurd hq (i32_le_nlt.mp h9)) | (intro h9; exact absurd hq (i32_lt_nle.mp h9)) | (intro h9; exact absurd h9 (i32_le_nlt.mp hq)) | (intro h9; exact absurd h9 (i32_lt_nle.mp hq))) H locs ls hP hS hl)

theorem GX_if_ge_N {Γ : GT} {cc : ByteArray} {own : String} {L : LY} {d nL0 k n : Nat} {lv : List (Option Value)} {st : List Value} {μ : MI} {pc : Nat} (hC : CX Γ cc own L d nL0) {x : Int32} {off : Int} (tgt : Nat) (hd : decode cc pc = .ok (.ifCond .ge off, 3)) (ht : (pc : Int) + off = (tgt : Int)) (kt : x < 0 → GX Γ L k n lv st μ (pc + 3)) (kf : ¬ (x < 0) → GX Γ L k n lv st μ tgt) : GX Γ L k n lv (.int x :: st) μ pc := by
  obtain ⟨p, l, e, R, s, m, args, below, meth, c, Q, H0, dC, dI, Y, ad, A, nL⟩ := Γ
  obtain ⟨hx, hb, hml, hown, hts, hK, hA, hd1, hd2, hnl⟩ := hC
  intro H locs ls hP hS hl
  exact lv_if_ge hx hb hd ht (fun hq => kf (by first | exact hq | exact i32_le_nlt.mpr hq | exact i32_lt_nle.mpr hq | exact i32_le_nlt.mp hq | exact i32_lt_nle.mp hq | exact Classical.not_not.mp hq | exact fun h9 => hq h9 | exact fun h9 => h9 hq | (intro h9; exact absurd hq (i32_le_nlt.mp h9)) | (intro h9; exact absurd hq (i32_lt_nle.mp h9)) | (intro h9; exact absurd h9 (i32_le_nlt.mp hq)) | (intro h9; exact absurd h9 (i32_lt_nle.mp hq))) H locs ls hP hS hl) (fun hq => kt (by first | exact hq | exact i32_le_nlt.mpr hq | exact i32_lt_nle.mpr hq | exact i32_le_nlt.mp hq | exact i32_lt_nle.mp hq | exact Classical.not_not.mp hq | exact fun h9 => hq h9 | exact fun h9 => h9 hq | (intro h9; exact absurd hq (i32_le_nlt.mp h9)) | (intro h9; exact absurd hq (i32_lt_nle.mp h9)) | (intro h9; exact absurd h9 (i32_le_nlt.mp hq)) | (intro h9; exact absurd h9 (i32_lt_nle.mp hq))) H locs ls hP hS hl)

theorem GX_icmp_gt_P {Γ : GT} {cc : ByteArray} {own : String} {L : LY} {d nL0 k n : Nat} {lv : List (Option Value)} {st : List Value} {μ : MI} {pc : Nat} (hC : CX Γ cc own L d nL0) {x y : Int32} {off : Int} (tgt : Nat) (hd : decode cc pc = .ok (.if_icmp .gt off, 3)) (ht : (pc : Int) + off = (tgt : Int)) (kt : y < x → GX Γ L k n lv st μ tgt) (kf : ¬ (y < x) → GX Γ L k n lv st μ (pc + 3)) : GX Γ L k n lv (.int y :: .int x :: st) μ pc := by
  obtain ⟨p, l, e, R, s, m, args, below, meth, c, Q, H0, dC, dI, Y, ad, A, nL⟩ := Γ
  obtain ⟨hx, hb, hml, hown, hts, hK, hA, hd1, hd2, hnl⟩ := hC
  intro H locs ls hP hS hl
  exact lv_icmp_gt hx hb hd ht (fun hq => kt (by first | exact hq | exact i32_le_nlt.mpr hq | exact i32_lt_nle.mpr hq | exact i32_le_nlt.mp hq | exact i32_lt_nle.mp hq | exact Classical.not_not.mp hq | exact fun h9 => hq h9 | exact fun h9 => h9 hq | (intro h9; exact absurd hq (i32_le_nlt.mp h9)) | (intro h9; exact absurd hq (i32_lt_nle.mp h9)) | (intro h9; exact absurd h9 (i32_le_nlt.mp hq)) | (intro h9; exact absurd h9 (i32_lt_nle.mp hq))) H locs ls hP hS hl) (fun hq => kf (by first | exact hq | exact i32_le_nlt.mpr hq | exact i32_lt_nle.mpr hq | exact i32_le_nlt.mp hq | exact i32_lt_nle.mp hq | exact Classical.not_not.mp hq | exact fun h9 => hq h9 | exact fun h9 => h9 hq | (intro h9; exact absurd hq (i32_le_nlt.mp h9)) | (intro h9; exact absurd hq (i32_lt_nle.mp h9)) | (intro h9; exact absurd h9 (i32_le_nlt.mp hq)) | (intro h9; exact absurd h9 (i32_lt_nle.mp hq))) H locs ls hP hS hl)

theorem GX_icmp_gt_N {Γ : GT} {cc : ByteArray} {own : String} {L : LY} {d nL0 k n : Nat} {lv : List (Option Value)} {st : List Value} {μ : MI} {pc : Nat} (hC : CX Γ cc own L d nL0) {x y : Int32} {off : Int} (tgt : Nat) (hd : decode cc pc = .ok (.if_icmp .gt off, 3)) (ht : (pc : Int) + off = (tgt : Int)) (kt : x ≤ y → GX Γ L k n lv st μ (pc + 3)) (kf : ¬ (x ≤ y) → GX Γ L k n lv st μ tgt) : GX Γ L k n lv (.int y :: .int x :: st) μ pc := by
  obtain ⟨p, l, e, R, s, m, args, below, meth, c, Q, H0, dC, dI, Y, ad, A, nL⟩ := Γ
  obtain ⟨hx, hb, hml, hown, hts, hK, hA, hd1, hd2, hnl⟩ := hC
  intro H locs ls hP hS hl
  exact lv_icmp_gt hx hb hd ht (fun hq => kf (by first | exact hq | exact i32_le_nlt.mpr hq | exact i32_lt_nle.mpr hq | exact i32_le_nlt.mp hq | exact i32_lt_nle.mp hq | exact Classical.not_not.mp hq | exact fun h9 => hq h9 | exact fun h9 => h9 hq | (intro h9; exact absurd hq (i32_le_nlt.mp h9)) | (intro h9; exact absurd hq (i32_lt_nle.mp h9)) | (intro h9; exact absurd h9 (i32_le_nlt.mp hq)) | (intro h9; exact absurd h9 (i32_lt_nle.mp hq))) H locs ls hP hS hl) (fun hq => kt (by first | exact hq | exact i32_le_nlt.mpr hq | exact i32_lt_nle.mpr hq | exact i32_le_nlt.mp hq | exact i32_lt_nle.mp hq | exact Classical.not_not.mp hq | exact fun h9 => hq h9 | exact fun h9 => h9 hq | (intro h9; exact absurd hq (i32_le_nlt.mp h9)) | (intro h9; exact absurd hq (i32_lt_nle.mp h9)) | (intro h9; exact absurd h9 (i32_le_nlt.mp hq)) | (intro h9; exact absurd h9 (i32_lt_nle.mp hq))) H locs ls hP hS hl)

theorem GX_if_gt_P {Γ : GT} {cc : ByteArray} {own : String} {L : LY} {d nL0 k n : Nat} {lv : List (Option Value)} {st : List Value} {μ : MI} {pc : Nat} (hC : CX Γ cc own L d nL0) {x : Int32} {off : Int} (tgt : Nat) (hd : decode cc pc = .ok (.ifCond .gt off, 3)) (ht : (pc : Int) + off = (tgt : Int)) (kt : 0 < x → GX Γ L k n lv st μ tgt) (kf : ¬ (0 < x) → GX Γ L k n lv st μ (pc + 3)) : GX Γ L k n lv (.int x :: st) μ pc := by
  obtain ⟨p, l, e, R, s, m, args, below, meth, c, Q, H0, dC, dI, Y, ad, A, nL⟩ := Γ
  obtain ⟨hx, hb, hml, hown, hts, hK, hA, hd1, hd2, hnl⟩ := hC
  intro H locs ls hP hS hl
  exact lv_if_gt hx hb hd ht (fun hq => kt (by first | exact hq | exact i32_le_nlt.mpr hq | exact i32_lt_nle.mpr hq | exact i32_le_nlt.mp hq | exact i32_lt_nle.mp hq | exact Classical.not_not.mp hq | exact fun h9 => hq h9 | exact fun h9 => h9 hq | (intro h9; exact absurd hq (i32_le_nlt.mp h9)) | (intro h9; exact absurd hq (i32_lt_nle.mp h9)) | (intro h9; exact absurd h9 (i32_le_nlt.mp hq)) | (intro h9; exact absurd h9 (i32_lt_nle.mp hq))) H locs ls hP hS hl) (fun hq => kf (by first | exact hq | exact i32_le_nlt.mpr hq | exact i32_lt_nle.mpr hq | exact i32_le_nlt.mp hq | exact i32_lt_nle.mp hq | exact Classical.not_not.mp hq | exact fun h9 => hq h9 | exact fun h9 => h9 hq | (intro h9; exact absurd hq (i32_le_nlt.mp h9)) | (intro h9; exact absurd hq (i32_lt_nle.mp h9)) | (intro h9; exact absurd h9 (i32_le_nlt.mp hq)) | (intro h9; exact absurd h9 (i32_lt_nle.mp hq))) H locs ls hP hS hl)

theorem GX_if_gt_N {Γ : GT} {cc : ByteArray} {own : String} {L : LY} {d nL0 k n : Nat} {lv : List (Option Value)} {st : List Value} {μ : MI} {pc : Nat} (hC : CX Γ cc own L d nL0) {x : Int32} {off : Int} (tgt : Nat) (hd : decode cc pc = .ok (.ifCond .gt off, 3)) (ht : (pc : Int) + off = (tgt : Int)) (kt : x ≤ 0 → GX Γ L k n lv st μ (pc + 3)) (kf : ¬ (x ≤ 0) → GX Γ L k n lv st μ tgt) : GX Γ L k n lv (.int x :: st) μ pc := by
  obtain ⟨p, l, e, R, s, m, args, below, meth, c, Q, H0, dC, dI, Y, ad, A, nL⟩ := Γ
  obtain ⟨hx, hb, hml, hown, hts, hK, hA, hd1, hd2, hnl⟩ := hC
  intro H locs ls hP hS hl
  exact lv_if_gt hx hb hd ht (fun hq => kf (by first | exact hq | exact i32_le_nlt.mpr hq | exact i32_lt_nle.mpr hq | exact i32_le_nlt.mp hq | exact i32_lt_nle.mp hq | exact Classical.not_not.mp hq | exact fun h9 => hq h9 | exact fun h9 => h9 hq | (intro h9; exact absurd hq (i32_le_nlt.mp h9)) | (intro h9; exact absurd hq (i32_lt_nle.mp h9)) | (intro h9; exact absurd h9 (i32_le_nlt.mp hq)) | (intro h9; exact absurd h9 (i32_lt_nle.mp hq))) H locs ls hP hS hl) (fun hq => kt (by first | exact hq | exact i32_le_nlt.mpr hq | exact i32_lt_nle.mpr hq | exact i32_le_nlt.mp hq | exact i32_lt_nle.mp hq | exact Classical.not_not.mp hq | exact fun h9 => hq h9 | exact fun h9 => h9 hq | (intro h9; exact absurd hq (i32_le_nlt.mp h9)) | (intro h9; exact absurd hq (i32_lt_nle.mp h9)) | (intro h9; exact absurd h9 (i32_le_nlt.mp hq)) | (intro h9; exact absurd h9 (i32_lt_nle.mp hq))) H locs ls hP hS hl)

theorem GX_icmp_le_P {Γ : GT} {cc : ByteArray} {own : String} {L : LY} {d nL0 k n : Nat} {lv : List (Option Value)} {st : List Value} {μ : MI} {pc : Nat} (hC : CX Γ cc own L d nL0) {x y : Int32} {off : Int} (tgt : Nat) (hd : decode cc pc = .ok (.if_icmp .le off, 3)) (ht : (pc : Int) + off = (tgt : Int)) (kt : x ≤ y → GX Γ L k n lv st μ tgt) (kf : ¬ (x ≤ y) → GX Γ L k n lv st μ (pc + 3)) : GX Γ L k n lv (.int y :: .int x :: st) μ pc := by
  obtain ⟨p, l, e, R, s, m, args, below, meth, c, Q, H0, dC, dI, Y, ad, A, nL⟩ := Γ
  obtain ⟨hx, hb, hml, hown, hts, hK, hA, hd1, hd2, hnl⟩ := hC
  intro H locs ls hP hS hl
  exact lv_icmp_le hx hb hd ht (fun hq => kt (by first | exact hq | exact i32_le_nlt.mpr hq | exact i32_lt_nle.mpr hq | exact i32_le_nlt.mp hq | exact i32_lt_nle.mp hq | exact Classical.not_not.mp hq | exact fun h9 => hq h9 | exact fun h9 => h9 hq | (intro h9; exact absurd hq (i32_le_nlt.mp h9)) | (intro h9; exact absurd hq (i32_lt_nle.mp h9)) | (intro h9; exact absurd h9 (i32_le_nlt.mp hq)) | (intro h9; exact absurd h9 (i32_lt_nle.mp hq))) H locs ls hP hS hl) (fun hq => kf (by first | exact hq | exact i32_le_nlt.mpr hq | exact i32_lt_nle.mpr hq | exact i32_le_nlt.mp hq | exact i32_lt_nle.mp hq | exact Classical.not_not.mp hq | exact fun h9 => hq h9 | exact fun h9 => h9 hq | (intro h9; exact absurd hq (i32_le_nlt.mp h9)) | (intro h9; exact absurd hq (i32_lt_nle.mp h9)) | (intro h9; exact absurd h9 (i32_le_nlt.mp hq)) | (intro h9; exact absurd h9 (i32_lt_nle.mp hq))) H locs ls hP hS hl)

theorem GX_icmp_le_N {Γ : GT} {cc : ByteArray} {own : String} {L : LY} {d nL0 k n : Nat} {lv : List (Option Value)} {st : List Value} {μ : MI} {pc : Nat} (hC : CX Γ cc own L d nL0) {x y : Int32} {off : Int} (tgt : Nat) (hd : decode cc pc = .ok (.if_icmp .le off, 3)) (ht : (pc : Int) + off = (tgt : Int)) (kt : y < x → GX Γ L k n lv st μ (pc + 3)) (kf : ¬ (y < x) → GX Γ L k n lv st μ tgt) : GX Γ L k n lv (.int y :: .int x :: st) μ pc := by
  obtain ⟨p, l, e, R, s, m, args, below, meth, c, Q, H0, dC, dI, Y, ad, A, nL⟩ := Γ
  obtain ⟨hx, hb, hml, hown, hts, hK, hA, hd1, hd2, hnl⟩ := hC
  intro H locs ls hP hS hl
  exact lv_icmp_le hx hb hd ht (fun hq => kf (by first | exact hq | exact i32_le_nlt.mpr hq | exact i32_lt_nle.mpr hq | exact i32_le_nlt.mp hq | exact i32_lt_nle.mp hq | exact Classical.not_not.mp hq | exact fun h9 => hq h9 | exact fun h9 => h9 hq | (intro h9; exact absurd hq (i32_le_nlt.mp h9)) | (intro h9; exact absurd hq (i32_lt_nle.mp h9)) | (intro h9; exact absurd h9 (i32_le_nlt.mp hq)) | (intro h9; exact absurd h9 (i32_lt_nle.mp hq))) H locs ls hP hS hl) (fun hq => kt (by first | exact hq | exact i32_le_nlt.mpr hq | exact i32_lt_nle.mpr hq | exact i32_le_nlt.mp hq | exact i32_lt_nle.mp hq | exact Classical.not_not.mp hq | exact fun h9 => hq h9 | exact fun h9 => h9 hq | (intro h9; exact absurd hq (i32_le_nlt.mp h9)) | (intro h9; exact absurd hq (i32_lt_nle.mp h9)) | (intro h9; exact absurd h9 (i32_le_nlt.mp hq)) | (intro h9; exact absurd h9 (i32_lt_nle.mp hq))) H locs ls hP hS hl)

theorem GX_if_le_P {Γ : GT} {cc : ByteArray} {own : String} {L : LY} {d nL0 k n : Nat} {lv : List (Option Value)} {st : List Value} {μ : MI} {pc : Nat} (hC : CX Γ cc own L d nL0) {x : Int32} {off : Int} (tgt : Nat) (hd : decode cc pc = .ok (.ifCond .le off, 3)) (ht : (pc : Int) + off = (tgt : Int)) (kt : x ≤ 0 → GX Γ L k n lv st μ tgt) (kf : ¬ (x ≤ 0) → GX Γ L k n lv st μ (pc + 3)) : GX Γ L k n lv (.int x :: st) μ pc := by
  obtain ⟨p, l, e, R, s, m, args, below, meth, c, Q, H0, dC, dI, Y, ad, A, nL⟩ := Γ
  obtain ⟨hx, hb, hml, hown, hts, hK, hA, hd1, hd2, hnl⟩ := hC
  intro H locs ls hP hS hl
  exact lv_if_le hx hb hd ht (fun hq => kt (by first | exact hq | exact i32_le_nlt.mpr hq | exact i32_lt_nle.mpr hq | exact i32_le_nlt.mp hq | exact i32_lt_nle.mp hq | exact Classical.not_not.mp hq | exact fun h9 => hq h9 | exact fun h9 => h9 hq | (intro h9; exact absurd hq (i32_le_nlt.mp h9)) | (intro h9; exact absurd hq (i32_lt_nle.mp h9)) | (intro h9; exact absurd h9 (i32_le_nlt.mp hq)) | (intro h9; exact absurd h9 (i32_lt_nle.mp hq))) H locs ls hP hS hl) (fun hq => kf (by first | exact hq | exact i32_le_nlt.mpr hq | exact i32_lt_nle.mpr hq | exact i32_le_nlt.mp hq | exact i32_lt_nle.mp hq | exact Classical.not_not.mp hq | exact fun h9 => hq h9 | exact fun h9 => h9 hq | (intro h9; exact absurd hq (i32_le_nlt.mp h9)) | (intro h9; exact absurd hq (i32_lt_nle.mp h9)) | (intro h9; exact absurd h9 (i32_le_nlt.mp hq)) | (intro h9; exact absurd h9 (i32_lt_nle.mp hq))) H locs ls hP hS hl)

theorem GX_if_le_N {Γ : GT} {cc : ByteArray} {own : String} {L : LY} {d nL0 k n : Nat} {lv : List (Option Value)} {st : List Value} {μ : MI} {pc : Nat} (hC : CX Γ cc own L d nL0) {x : Int32} {off : Int} (tgt : Nat) (hd : decode cc pc = .ok (.ifCond .le off, 3)) (ht : (pc : Int) + off = (tgt : Int)) (kt : 0 < x → GX Γ L k n lv st μ (pc + 3)) (kf : ¬ (0 < x) → GX Γ L k n lv st μ tgt) : GX Γ L k n lv (.int x :: st) μ pc := by
  obtain ⟨p, l, e, R, s, m, args, below, meth, c, Q, H0, dC, dI, Y, ad, A, nL⟩ := Γ
  obtain ⟨hx, hb, hml, hown, hts, hK, hA, hd1, hd2, hnl⟩ := hC
  intro H locs ls hP hS hl
  exact lv_if_le hx hb hd ht (fun hq => kf (by first | exact hq | exact i32_le_nlt.mpr hq | exact i32_lt_nle.mpr hq | exact i32_le_nlt.mp hq | exact i32_lt_nle.mp hq | exact Classical.not_not.mp hq | exact fun h9 => hq h9 | exact fun h9 => h9 hq | (intro h9; exact absurd hq (i32_le_nlt.mp h9)) | (intro h9; exact absurd hq (i32_lt_nle.mp h9)) | (intro h9; exact absurd h9 (i32_le_nlt.mp hq)) | (intro h9; exact absurd h9 (i32_lt_nle.mp hq))) H locs ls hP hS hl) (fun hq => kt (by first | exact hq | exact i32_le_nlt.mpr hq | exact i32_lt_nle.mpr hq | exact i32_le_nlt.mp hq | exact i32_lt_nle.mp hq | exact Classical.not_not.mp hq | exact fun h9 => hq h9 | exact fun h9 => h9 hq | (intro h9; exact absurd hq (i32_le_nlt.mp h9)) | (intro h9; exact absurd hq (i32_lt_nle.mp h9)) | (intro h9; exact absurd h9 (i32_le_nlt.mp hq)) | (intro h9; exact absurd h9 (i32_lt_nle.mp hq))) H locs ls hP hS hl)

theorem GX_ifb_eq {Γ : GT} {cc : ByteArray} {own : String} {L : LY} {d nL0 k n : Nat} {lv : List (Option Value)} {st : List Value} {μ : MI} {pc : Nat} (hC : CX Γ cc own L d nL0) {b : Bool} {off : Int} (tgt : Nat) (hd : decode cc pc = .ok (.ifCond .eq off, 3)) (ht : (pc : Int) + off = (tgt : Int)) (kt : b = true → GX Γ L k n lv st μ (pc + 3)) (kf : b = false → GX Γ L k n lv st μ tgt) : GX Γ L k n lv (.int (bI b) :: st) μ pc := by
  refine GX_if_eq_P hC tgt hd ht (fun hq => ?_) (fun hq => ?_)
  · cases b
    · first | exact kf rfl | exact absurd rfl hq
    · first | exact kt rfl | exact absurd hq (by decide)
  · cases b
    · first | exact kf rfl | exact absurd rfl hq | exact absurd (by decide) hq
    · first | exact kt rfl | exact absurd (by decide) hq

theorem GX_ifb_ne {Γ : GT} {cc : ByteArray} {own : String} {L : LY} {d nL0 k n : Nat} {lv : List (Option Value)} {st : List Value} {μ : MI} {pc : Nat} (hC : CX Γ cc own L d nL0) {b : Bool} {off : Int} (tgt : Nat) (hd : decode cc pc = .ok (.ifCond .ne off, 3)) (ht : (pc : Int) + off = (tgt : Int)) (kt : b = true → GX Γ L k n lv st μ tgt) (kf : b = false → GX Γ L k n lv st μ (pc + 3)) : GX Γ L k n lv (.int (bI b) :: st) μ pc := by
  refine GX_if_ne_P hC tgt hd ht (fun hq => ?_) (fun hq => ?_)
  · cases b
    · first | exact kf rfl | exact absurd rfl hq
    · first | exact kt rfl | exact absurd hq (by decide)
  · cases b
    · first | exact kf rfl | exact absurd rfl hq | exact absurd (by decide) hq
    · first | exact kt rfl | exact absurd (by decide) hq

theorem i64_le_nlt {x y : Int64} : x ≤ y ↔ ¬ y < x := by rw [Int64.le_iff_toInt_le, Int64.lt_iff_toInt_lt]; omega
theorem lc_lt {x y : Int64} : lg_cmp x y < 0 ↔ x < y := lgc_lt x y
theorem lc_gt {x y : Int64} : 0 < lg_cmp x y ↔ y < x := lgc_gt x y
theorem lc_eq {x y : Int64} : lg_cmp x y = 0 ↔ x = y := lgc_eq x y
theorem lc_ne {x y : Int64} : lg_cmp x y ≠ 0 ↔ x ≠ y := not_congr (lgc_eq x y)
theorem lc_ge {x y : Int64} : 0 ≤ lg_cmp x y ↔ y ≤ x := by rw [i32_le_nlt, i64_le_nlt, lc_lt]
theorem lc_le {x y : Int64} : lg_cmp x y ≤ 0 ↔ x ≤ y := by rw [i32_le_nlt, i64_le_nlt, lc_gt]
theorem GX_lc_eq_P {Γ : GT} {cc : ByteArray} {own : String} {L : LY} {d nL0 k n : Nat} {lv : List (Option Value)} {st : List Value} {μ : MI} {pc : Nat} (hC : CX Γ cc own L d nL0) {x y : Int64} {off : Int} (tgt : Nat) (hd0 : decode cc pc = .ok (.lcmp, 1)) (hd : decode cc (pc + 1) = .ok (.ifCond .eq off, 3)) (ht : ((pc + 1 : Nat) : Int) + off = (tgt : Int)) (kt : x = y → GX Γ L k n lv st μ tgt) (kf : ¬ (x = y) → GX Γ L k n lv st μ (pc + 1 + 3)) : GX Γ L k n lv (.long y :: .long x :: st) μ pc :=
  GX_lcmp hC hd0 (GX_if_eq_P hC tgt hd ht (fun hq => kt (lc_eq.mp hq)) (fun hq => kf (fun h => hq (lc_eq.mpr h))))

theorem GX_lc_eq_N {Γ : GT} {cc : ByteArray} {own : String} {L : LY} {d nL0 k n : Nat} {lv : List (Option Value)} {st : List Value} {μ : MI} {pc : Nat} (hC : CX Γ cc own L d nL0) {x y : Int64} {off : Int} (tgt : Nat) (hd0 : decode cc pc = .ok (.lcmp, 1)) (hd : decode cc (pc + 1) = .ok (.ifCond .eq off, 3)) (ht : ((pc + 1 : Nat) : Int) + off = (tgt : Int)) (kt : x ≠ y → GX Γ L k n lv st μ (pc + 1 + 3)) (kf : ¬ (x ≠ y) → GX Γ L k n lv st μ tgt) : GX Γ L k n lv (.long y :: .long x :: st) μ pc :=
  GX_lcmp hC hd0 (GX_if_eq_N hC tgt hd ht (fun hq => kt (lc_ne.mp hq)) (fun hq => kf (fun h => hq (lc_ne.mpr h))))

theorem GX_lc_ne_P {Γ : GT} {cc : ByteArray} {own : String} {L : LY} {d nL0 k n : Nat} {lv : List (Option Value)} {st : List Value} {μ : MI} {pc : Nat} (hC : CX Γ cc own L d nL0) {x y : Int64} {off : Int} (tgt : Nat) (hd0 : decode cc pc = .ok (.lcmp, 1)) (hd : decode cc (pc + 1) = .ok (.ifCond .ne off, 3)) (ht : ((pc + 1 : Nat) : Int) + off = (tgt : Int)) (kt : x ≠ y → GX Γ L k n lv st μ tgt) (kf : ¬ (x ≠ y) → GX Γ L k n lv st μ (pc + 1 + 3)) : GX Γ L k n lv (.long y :: .long x :: st) μ pc :=
  GX_lcmp hC hd0 (GX_if_ne_P hC tgt hd ht (fun hq => kt (lc_ne.mp hq)) (fun hq => kf (fun h => hq (lc_ne.mpr h))))

theorem GX_lc_ne_N {Γ : GT} {cc : ByteArray} {own : String} {L : LY} {d nL0 k n : Nat} {lv : List (Option Value)} {st : List Value} {μ : MI} {pc : Nat} (hC : CX Γ cc own L d nL0) {x y : Int64} {off : Int} (tgt : Nat) (hd0 : decode cc pc = .ok (.lcmp, 1)) (hd : decode cc (pc + 1) = .ok (.ifCond .ne off, 3)) (ht : ((pc + 1 : Nat) : Int) + off = (tgt : Int)) (kt : x = y → GX Γ L k n lv st μ (pc + 1 + 3)) (kf : ¬ (x = y) → GX Γ L k n lv st μ tgt) : GX Γ L k n lv (.long y :: .long x :: st) μ pc :=
  GX_lcmp hC hd0 (GX_if_ne_N hC tgt hd ht (fun hq => kt (lc_eq.mp hq)) (fun hq => kf (fun h => hq (lc_eq.mpr h))))

theorem GX_lc_lt_P {Γ : GT} {cc : ByteArray} {own : String} {L : LY} {d nL0 k n : Nat} {lv : List (Option Value)} {st : List Value} {μ : MI} {pc : Nat} (hC : CX Γ cc own L d nL0) {x y : Int64} {off : Int} (tgt : Nat) (hd0 : decode cc pc = .ok (.lcmp, 1)) (hd : decode cc (pc + 1) = .ok (.ifCond .lt off, 3)) (ht : ((pc + 1 : Nat) : Int) + off = (tgt : Int)) (kt : x < y → GX Γ L k n lv st μ tgt) (kf : ¬ (x < y) → GX Γ L k n lv st μ (pc + 1 + 3)) : GX Γ L k n lv (.long y :: .long x :: st) μ pc :=
  GX_lcmp hC hd0 (GX_if_lt_P hC tgt hd ht (fun hq => kt (lc_lt.mp hq)) (fun hq => kf (fun h => hq (lc_lt.mpr h))))

theorem GX_lc_lt_N {Γ : GT} {cc : ByteArray} {own : String} {L : LY} {d nL0 k n : Nat} {lv : List (Option Value)} {st : List Value} {μ : MI} {pc : Nat} (hC : CX Γ cc own L d nL0) {x y : Int64} {off : Int} (tgt : Nat) (hd0 : decode cc pc = .ok (.lcmp, 1)) (hd : decode cc (pc + 1) = .ok (.ifCond .lt off, 3)) (ht : ((pc + 1 : Nat) : Int) + off = (tgt : Int)) (kt : y ≤ x → GX Γ L k n lv st μ (pc + 1 + 3)) (kf : ¬ (y ≤ x) → GX Γ L k n lv st μ tgt) : GX Γ L k n lv (.long y :: .long x :: st) μ pc :=
  GX_lcmp hC hd0 (GX_if_lt_N hC tgt hd ht (fun hq => kt (lc_ge.mp hq)) (fun hq => kf (fun h => hq (lc_ge.mpr h))))

theorem GX_lc_ge_P {Γ : GT} {cc : ByteArray} {own : String} {L : LY} {d nL0 k n : Nat} {lv : List (Option Value)} {st : List Value} {μ : MI} {pc : Nat} (hC : CX Γ cc own L d nL0) {x y : Int64} {off : Int} (tgt : Nat) (hd0 : decode cc pc = .ok (.lcmp, 1)) (hd : decode cc (pc + 1) = .ok (.ifCond .ge off, 3)) (ht : ((pc + 1 : Nat) : Int) + off = (tgt : Int)) (kt : y ≤ x → GX Γ L k n lv st μ tgt) (kf : ¬ (y ≤ x) → GX Γ L k n lv st μ (pc + 1 + 3)) : GX Γ L k n lv (.long y :: .long x :: st) μ pc :=
  GX_lcmp hC hd0 (GX_if_ge_P hC tgt hd ht (fun hq => kt (lc_ge.mp hq)) (fun hq => kf (fun h => hq (lc_ge.mpr h))))

theorem GX_lc_ge_N {Γ : GT} {cc : ByteArray} {own : String} {L : LY} {d nL0 k n : Nat} {lv : List (Option Value)} {st : List Value} {μ : MI} {pc : Nat} (hC : CX Γ cc own L d nL0) {x y : Int64} {off : Int} (tgt : Nat) (hd0 : decode cc pc = .ok (.lcmp, 1)) (hd : decode cc (pc + 1) = .ok (.ifCond .ge off, 3)) (ht : ((pc + 1 : Nat) : Int) + off = (tgt : Int)) (kt : x < y → GX Γ L k n lv st μ (pc + 1 + 3)) (kf : ¬ (x < y) → GX Γ L k n lv st μ tgt) : GX Γ L k n lv (.long y :: .long x :: st) μ pc :=
  GX_lcmp hC hd0 (GX_if_ge_N hC tgt hd ht (fun hq => kt (lc_lt.mp hq)) (fun hq => kf (fun h => hq (lc_lt.mpr h))))

theorem GX_lc_gt_P {Γ : GT} {cc : ByteArray} {own : String} {L : LY} {d nL0 k n : Nat} {lv : List (Option Value)} {st : List Value} {μ : MI} {pc : Nat} (hC : CX Γ cc own L d nL0) {x y : Int64} {off : Int} (tgt : Nat) (hd0 : decode cc pc = .ok (.lcmp, 1)) (hd : decode cc (pc + 1) = .ok (.ifCond .gt off, 3)) (ht : ((pc + 1 : Nat) : Int) + off = (tgt : Int)) (kt : y < x → GX Γ L k n lv st μ tgt) (kf : ¬ (y < x) → GX Γ L k n lv st μ (pc + 1 + 3)) : GX Γ L k n lv (.long y :: .long x :: st) μ pc :=
  GX_lcmp hC hd0 (GX_if_gt_P hC tgt hd ht (fun hq => kt (lc_gt.mp hq)) (fun hq => kf (fun h => hq (lc_gt.mpr h))))

theorem GX_lc_gt_N {Γ : GT} {cc : ByteArray} {own : String} {L : LY} {d nL0 k n : Nat} {lv : List (Option Value)} {st : List Value} {μ : MI} {pc : Nat} (hC : CX Γ cc own L d nL0) {x y : Int64} {off : Int} (tgt : Nat) (hd0 : decode cc pc = .ok (.lcmp, 1)) (hd : decode cc (pc + 1) = .ok (.ifCond .gt off, 3)) (ht : ((pc + 1 : Nat) : Int) + off = (tgt : Int)) (kt : x ≤ y → GX Γ L k n lv st μ (pc + 1 + 3)) (kf : ¬ (x ≤ y) → GX Γ L k n lv st μ tgt) : GX Γ L k n lv (.long y :: .long x :: st) μ pc :=
  GX_lcmp hC hd0 (GX_if_gt_N hC tgt hd ht (fun hq => kt (lc_le.mp hq)) (fun hq => kf (fun h => hq (lc_le.mpr h))))

theorem GX_lc_le_P {Γ : GT} {cc : ByteArray} {own : String} {L : LY} {d nL0 k n : Nat} {lv : List (Option Value)} {st : List Value} {μ : MI} {pc : Nat} (hC : CX Γ cc own L d nL0) {x y : Int64} {off : Int} (tgt : Nat) (hd0 : decode cc pc = .ok (.lcmp, 1)) (hd : decode cc (pc + 1) = .ok (.ifCond .le off, 3)) (ht : ((pc + 1 : Nat) : Int) + off = (tgt : Int)) (kt : x ≤ y → GX Γ L k n lv st μ tgt) (kf : ¬ (x ≤ y) → GX Γ L k n lv st μ (pc + 1 + 3)) : GX Γ L k n lv (.long y :: .long x :: st) μ pc :=
  GX_lcmp hC hd0 (GX_if_le_P hC tgt hd ht (fun hq => kt (lc_le.mp hq)) (fun hq => kf (fun h => hq (lc_le.mpr h))))

theorem GX_lc_le_N {Γ : GT} {cc : ByteArray} {own : String} {L : LY} {d nL0 k n : Nat} {lv : List (Option Value)} {st : List Value} {μ : MI} {pc : Nat} (hC : CX Γ cc own L d nL0) {x y : Int64} {off : Int} (tgt : Nat) (hd0 : decode cc pc = .ok (.lcmp, 1)) (hd : decode cc (pc + 1) = .ok (.ifCond .le off, 3)) (ht : ((pc + 1 : Nat) : Int) + off = (tgt : Int)) (kt : y < x → GX Γ L k n lv st μ (pc + 1 + 3)) (kf : ¬ (y < x) → GX Γ L k n lv st μ tgt) : GX Γ L k n lv (.long y :: .long x :: st) μ pc :=
  GX_lcmp hC hd0 (GX_if_le_N hC tgt hd ht (fun hq => kt (lc_gt.mp hq)) (fun hq => kf (fun h => hq (lc_gt.mpr h))))

theorem GX_goto {Γ : GT} {cc : ByteArray} {own : String} {L : LY} {d nL0 k n : Nat} {lv : List (Option Value)} {st : List Value} {μ : MI} {pc : Nat} (hC : CX Γ cc own L d nL0) {off : Int} (tgt : Nat) (hd : decode cc pc = .ok (.goto off, 3)) (ht : (pc : Int) + off = (tgt : Int)) (kk : GX Γ L k n lv st μ tgt) : GX Γ L k n lv st μ pc := by
  obtain ⟨p, l, e, R, s, m, args, below, meth, c, Q, H0, dC, dI, Y, ad, A, nL⟩ := Γ
  obtain ⟨hx, hb, hml, hown, hts, hK, hA, hd1, hd2, hnl⟩ := hC
  intro H locs ls hP hS hl
  exact lv_goto hx hb hd ht (kk H locs ls hP hS hl)

theorem GX_ifnull {Γ : GT} {cc : ByteArray} {own : String} {L : LY} {d nL0 k n : Nat} {lv : List (Option Value)} {st : List Value} {μ : MI} {pc : Nat} (hC : CX Γ cc own L d nL0) {x : Nat} {off : Int} (hd : decode cc pc = .ok (.ifnull off, 3)) (kk : GX Γ L k n lv st μ (pc + 3)) : GX Γ L k n lv (.ref x :: st) μ pc := by
  obtain ⟨p, l, e, R, s, m, args, below, meth, c, Q, H0, dC, dI, Y, ad, A, nL⟩ := Γ
  obtain ⟨hx, hb, hml, hown, hts, hK, hA, hd1, hd2, hnl⟩ := hC
  intro H locs ls hP hS hl
  exact lv_ifnull hx hb hd (kk H locs ls hP hS hl)

theorem GX_ifnullN {Γ : GT} {cc : ByteArray} {own : String} {L : LY} {d nL0 k n : Nat} {lv : List (Option Value)} {st : List Value} {μ : MI} {pc : Nat} (hC : CX Γ cc own L d nL0) {off : Int} (tgt : Nat) (hd : decode cc pc = .ok (.ifnull off, 3)) (ht : (pc : Int) + off = (tgt : Int)) (kk : GX Γ L k n lv st μ tgt) : GX Γ L k n lv (.null :: st) μ pc := by
  obtain ⟨p, l, e, R, s, m, args, below, meth, c, Q, H0, dC, dI, Y, ad, A, nL⟩ := Γ
  obtain ⟨hx, hb, hml, hown, hts, hK, hA, hd1, hd2, hnl⟩ := hC
  intro H locs ls hP hS hl
  exact lv_ifnullN hx hb hd ht (kk H locs ls hP hS hl)

theorem GX_ifnonnull {Γ : GT} {cc : ByteArray} {own : String} {L : LY} {d nL0 k n : Nat} {lv : List (Option Value)} {st : List Value} {μ : MI} {pc : Nat} (hC : CX Γ cc own L d nL0) {x : Nat} {off : Int} (tgt : Nat) (hd : decode cc pc = .ok (.ifnonnull off, 3)) (ht : (pc : Int) + off = (tgt : Int)) (kk : GX Γ L k n lv st μ tgt) : GX Γ L k n lv (.ref x :: st) μ pc := by
  obtain ⟨p, l, e, R, s, m, args, below, meth, c, Q, H0, dC, dI, Y, ad, A, nL⟩ := Γ
  obtain ⟨hx, hb, hml, hown, hts, hK, hA, hd1, hd2, hnl⟩ := hC
  intro H locs ls hP hS hl
  exact lv_ifnonnull hx hb hd ht (kk H locs ls hP hS hl)

theorem GX_ifnonnullN {Γ : GT} {cc : ByteArray} {own : String} {L : LY} {d nL0 k n : Nat} {lv : List (Option Value)} {st : List Value} {μ : MI} {pc : Nat} (hC : CX Γ cc own L d nL0) {off : Int} (hd : decode cc pc = .ok (.ifnonnull off, 3)) (kk : GX Γ L k n lv st μ (pc + 3)) : GX Γ L k n lv (.null :: st) μ pc := by
  obtain ⟨p, l, e, R, s, m, args, below, meth, c, Q, H0, dC, dI, Y, ad, A, nL⟩ := Γ
  obtain ⟨hx, hb, hml, hown, hts, hK, hA, hd1, hd2, hnl⟩ := hC
  intro H locs ls hP hS hl
  exact lv_ifnonnullN hx hb hd (kk H locs ls hP hS hl)

theorem GX_tableIn {Γ : GT} {cc : ByteArray} {own : String} {L : LY} {d nL0 k n : Nat} {lv : List (Option Value)} {st : List Value} {μ : MI} {pc : Nat} (hC : CX Γ cc own L d nL0) {dflt lo hi : Int} {offs : Array Int} {len : Nat} {x : Int32} (x0 : Int32) {off : Int} (tgt : Nat) (hd : decode cc pc = .ok (.tableswitch dflt lo hi offs, len)) (hx0 : x = x0) (h1 : ¬ x0.toInt < lo) (h2 : ¬ hi < x0.toInt) (ho : offs[(x0.toInt - lo).toNat]? = some off) (ht : (pc : Int) + off = (tgt : Int)) (kk : GX Γ L k n lv st μ tgt) : GX Γ L k n lv (.int x :: st) μ pc := by
  obtain ⟨p, l, e, R, s, m, args, below, meth, c, Q, H0, dC, dI, Y, ad, A, nL⟩ := Γ
  obtain ⟨hx, hb, hml, hown, hts, hK, hA, hd1, hd2, hnl⟩ := hC
  intro H locs ls hP hS hl
  subst hx0; exact lv_tableIn hx hb hd h1 h2 ho ht (kk H locs ls hP hS hl)

theorem GX_tableOut {Γ : GT} {cc : ByteArray} {own : String} {L : LY} {d nL0 k n : Nat} {lv : List (Option Value)} {st : List Value} {μ : MI} {pc : Nat} (hC : CX Γ cc own L d nL0) {dflt lo hi : Int} {offs : Array Int} {len : Nat} {x : Int32} (tgt : Nat) (hd : decode cc pc = .ok (.tableswitch dflt lo hi offs, len)) (h : x.toInt < lo ∨ hi < x.toInt) (ht : (pc : Int) + dflt = (tgt : Int)) (kk : GX Γ L k n lv st μ tgt) : GX Γ L k n lv (.int x :: st) μ pc := by
  obtain ⟨p, l, e, R, s, m, args, below, meth, c, Q, H0, dC, dI, Y, ad, A, nL⟩ := Γ
  obtain ⟨hx, hb, hml, hown, hts, hK, hA, hd1, hd2, hnl⟩ := hC
  intro H locs ls hP hS hl
  exact lv_tableOut hx hb hd h ht (kk H locs ls hP hS hl)

theorem GX_lookup {Γ : GT} {cc : ByteArray} {own : String} {L : LY} {d nL0 k n : Nat} {lv : List (Option Value)} {st : List Value} {μ : MI} {pc : Nat} (hC : CX Γ cc own L d nL0) {dflt : Int} {ps : Array (Int × Int)} {len : Nat} {x : Int32} {off : Int} (tgt : Nat) (hd : decode cc pc = .ok (.lookupswitch dflt ps, len)) (hp : (ps.toList.zip (ps.toList.drop 1)).all (fun (a, next) => a.1 < next.1) = true) (ho : Op.lookupswitch.offset ps.toList dflt x.toInt = off) (ht : (pc : Int) + off = (tgt : Int)) (kk : GX Γ L k n lv st μ tgt) : GX Γ L k n lv (.int x :: st) μ pc := by
  obtain ⟨p, l, e, R, s, m, args, below, meth, c, Q, H0, dC, dI, Y, ad, A, nL⟩ := Γ
  obtain ⟨hx, hb, hml, hown, hts, hK, hA, hd1, hd2, hnl⟩ := hC
  intro H locs ls hP hS hl
  exact lv_lookup hx hb hd hp ho ht (kk H locs ls hP hS hl)

/-- what a field's instruction needs: of class ci, slot j; its link from 'own' -/
def fOK (own : String) (ix ci j : Nat) : Prop := ∃ (C : String) (T : u_T) (N : Nat) (ty : Nat → FieldType), vwCl[ci]? = some (C, T, N) ∧ j < N ∧ Cond.fieldLink own ix (T j).1 (T j).2.1 (T j).2.2.1 ∈ TT ∧ (∀ w ∈ u_ws C T N, w ∈ TT) ∧ (∀ k, k < N → parseFieldDescriptor (T k).2.2.1 = some (ty k)) ∧ (∀ a, a < N → ∀ b, b < N → a ≠ b → (T a).2.1 ≠ (T b).2.1)
/-- a field of numbers that may be written, of that type -/
def fTy (ci j : Nat) (ty : FieldType) : Prop := ∃ (C : String) (T : u_T) (N : Nat), vwCl[ci]? = some (C, T, N) ∧ (T j).2.2.2 = false ∧ parseFieldDescriptor (T j).2.2.1 = some ty
theorem GX_getI {Γ : GT} {cc : ByteArray} {own : String} {L : LY} {d nL0 k n : Nat} {lv : List (Option Value)} {st : List Value} {μ : MI} {pc : Nat} (hC : CX Γ cc own L d nL0) {a ix ci j : Nat} {s : List (Option (Option Nat))} (hf : fOK own ix ci j) (hcell : L[a]? = some (.inl (ci, s))) (hs : s[j]? = some none) (hd : decode cc pc = .ok (.getfield ix, 3)) (kk : GX Γ L k n lv (.int (μ.1 a j) :: st) μ (pc + 3)) : GX Γ L k n lv (.ref (gad Γ a) :: st) μ pc := by
  obtain ⟨p, l, e, R, s, m, args, below, meth, c, Q, H0, dC, dI, Y, ad, A, nL⟩ := Γ
  obtain ⟨hx, hb, hml, hown, hts, hK, hA, hd1, hd2, hnl⟩ := hC
  intro H locs ls hP hS hl
  obtain ⟨C, T, N, ty, h1, h2, h3, h4, h5, h6⟩ := hf
  have he := ws_at (ad := ad) (Y := Y) (μ := μ) hcell
  exact va_get (D := (dC, dI)) hx hb hts h4 hown hK hP a he h1 j h2 (hts _ h3) (fun _ h => h) (v := .int (μ.1 a j)) (by simp [hs, sV]) hd (kk H locs ls hP hS hl)

theorem GX_getR {Γ : GT} {cc : ByteArray} {own : String} {L : LY} {d nL0 k n : Nat} {lv : List (Option Value)} {st : List Value} {μ : MI} {pc : Nat} (hC : CX Γ cc own L d nL0) {a b ix ci j : Nat} {s : List (Option (Option Nat))} (hf : fOK own ix ci j) (hcell : L[a]? = some (.inl (ci, s))) (hs : s[j]? = some (some (some b))) (hd : decode cc pc = .ok (.getfield ix, 3)) (kk : GX Γ L k n lv (.ref (gad Γ b) :: st) μ (pc + 3)) : GX Γ L k n lv (.ref (gad Γ a) :: st) μ pc := by
  obtain ⟨p, l, e, R, s, m, args, below, meth, c, Q, H0, dC, dI, Y, ad, A, nL⟩ := Γ
  obtain ⟨hx, hb, hml, hown, hts, hK, hA, hd1, hd2, hnl⟩ := hC
  intro H locs ls hP hS hl
  obtain ⟨C, T, N, ty, h1, h2, h3, h4, h5, h6⟩ := hf
  have he := ws_at (ad := ad) (Y := Y) (μ := μ) hcell
  exact va_get (D := (dC, dI)) hx hb hts h4 hown hK hP a he h1 j h2 (hts _ h3) (fun _ h => h) (v := .ref (ad b)) (by simp [hs, sV, va_rf]) hd (kk H locs ls hP hS hl)

theorem GX_putI {Γ : GT} {cc : ByteArray} {own : String} {L : LY} {d nL0 k n : Nat} {lv : List (Option Value)} {st : List Value} {μ : MI} {pc : Nat} (hC : CX Γ cc own L d nL0) {a ix ci j : Nat} {x : Int32} {s : List (Option (Option Nat))} (hf : fOK own ix ci j) (hty : fTy ci j .int) (hcell : L[a]? = some (.inl (ci, s))) (hs : s[j]? = some none) (hd : decode cc pc = .ok (.putfield ix, 3)) (kk : GX Γ L k n lv st (si μ a j x) (pc + 3)) : GX Γ L k n lv (.int x :: .ref (gad Γ a) :: st) μ pc := by
  obtain ⟨p, l, e, R, s, m, args, below, meth, c, Q, H0, dC, dI, Y, ad, A, nL⟩ := Γ
  obtain ⟨hx, hb, hml, hown, hts, hK, hA, hd1, hd2, hnl⟩ := hC
  intro H locs ls hP hS hl
  obtain ⟨C, T, N, ty, h1, h2, h3, h4, h5, h6⟩ := hf
  obtain ⟨C2, T2, N2, g1, g2, g3⟩ := hty
  cases h1.symm.trans g1
  have he := ws_at (ad := ad) (Y := Y) (μ := μ) hcell
  refine va_put (D := (dC, dI)) (v := .int x) hx hb hts h4 ty h5 h6 hown hK hP (hA.D Y μ) hS a he h1 j h2 (hts _ h3) (fun _ h => h) g2 g3 rfl rfl (by simpa using (List.getElem?_eq_some_iff.mp hs).1) hd (fun H1 locs1 hP1 _ hS1 => kk H1 locs1 ls ?_ hS1 hl)
  rw [map_sV_set hs] at hP1
  rw [si_sa, ← ws_sa hcell]
  simpa [cE, sa] using hP1

theorem GX_putZ {Γ : GT} {cc : ByteArray} {own : String} {L : LY} {d nL0 k n : Nat} {lv : List (Option Value)} {st : List Value} {μ : MI} {pc : Nat} (hC : CX Γ cc own L d nL0) {a ix ci j : Nat} {b : Bool} {s : List (Option (Option Nat))} (hf : fOK own ix ci j) (hty : fTy ci j .boolean) (hcell : L[a]? = some (.inl (ci, s))) (hs : s[j]? = some none) (hd : decode cc pc = .ok (.putfield ix, 3)) (kk : GX Γ L k n lv st (si μ a j (bI b)) (pc + 3)) : GX Γ L k n lv (.int (bI b) :: .ref (gad Γ a) :: st) μ pc := by
  obtain ⟨p, l, e, R, s, m, args, below, meth, c, Q, H0, dC, dI, Y, ad, A, nL⟩ := Γ
  obtain ⟨hx, hb, hml, hown, hts, hK, hA, hd1, hd2, hnl⟩ := hC
  intro H locs ls hP hS hl
  obtain ⟨C, T, N, ty, h1, h2, h3, h4, h5, h6⟩ := hf
  obtain ⟨C2, T2, N2, g1, g2, g3⟩ := hty
  cases h1.symm.trans g1
  have he := ws_at (ad := ad) (Y := Y) (μ := μ) hcell
  refine va_put (D := (dC, dI)) (v := .int (bI b)) hx hb hts h4 ty h5 h6 hown hK hP (hA.D Y μ) hS a he h1 j h2 (hts _ h3) (fun _ h => h) g2 g3 (nar_b b) (fits_b b) (by simpa using (List.getElem?_eq_some_iff.mp hs).1) hd (fun H1 locs1 hP1 _ hS1 => kk H1 locs1 ls ?_ hS1 hl)
  rw [map_sV_set hs] at hP1
  rw [si_sa, ← ws_sa hcell]
  simpa [cE, sa] using hP1

theorem vp_in_of2 {i : Int32} {n : Nat} (h : 0 ≤ i ∧ i.toNatClampNeg < n) : vp_in i n := by
  intro h2
  rcases h2 with h2 | h2
  · exact i32_le_nlt.mp h.1 h2
  · omega
theorem GX_iald {Γ : GT} {cc : ByteArray} {own : String} {L : LY} {d nL0 k n : Nat} {lv : List (Option Value)} {st : List Value} {μ : MI} {pc : Nat} (hC : CX Γ cc own L d nL0) {a N : Nat} {i : Int32} {r : List (Option Nat)} (hcell : L[a]? = some (.inr (0, N, r))) (hi : 0 ≤ i ∧ i.toNatClampNeg < N) (hd : decode cc pc = .ok (.iaload, 1)) (kk : GX Γ L k n lv (.int (μ.1 a i.toNatClampNeg) :: st) μ (pc + 1)) : GX Γ L k n lv (.int i :: .ref (gad Γ a) :: st) μ pc := by
  obtain ⟨p, l, e, R, s, m, args, below, meth, c, Q, H0, dC, dI, Y, ad, A, nL⟩ := Γ
  obtain ⟨hx, hb, hml, hown, hts, hK, hA, hd1, hd2, hnl⟩ := hC
  intro H locs ls hP hS hl
  exact va_iald hx hb hK hP a 0 (ws_at hcell) rfl (vp_in_of2 hi) hd (kk H locs ls hP hS hl)

theorem GX_lald {Γ : GT} {cc : ByteArray} {own : String} {L : LY} {d nL0 k n : Nat} {lv : List (Option Value)} {st : List Value} {μ : MI} {pc : Nat} (hC : CX Γ cc own L d nL0) {a N : Nat} {i : Int32} {r : List (Option Nat)} (hcell : L[a]? = some (.inr (2, N, r))) (hi : 0 ≤ i ∧ i.toNatClampNeg < N) (hd : decode cc pc = .ok (.laload, 1)) (kk : GX Γ L k n lv (.long (μ.2 a i.toNatClampNeg) :: st) μ (pc + 1)) : GX Γ L k n lv (.int i :: .ref (gad Γ a) :: st) μ pc := by
  obtain ⟨p, l, e, R, s, m, args, below, meth, c, Q, H0, dC, dI, Y, ad, A, nL⟩ := Γ
  obtain ⟨hx, hb, hml, hown, hts, hK, hA, hd1, hd2, hnl⟩ := hC
  intro H locs ls hP hS hl
  exact va_lald hx hb hK hP a 2 (ws_at hcell) rfl (vp_in_of2 hi) hd (kk H locs ls hP hS hl)

theorem GX_zald {Γ : GT} {cc : ByteArray} {own : String} {L : LY} {d nL0 k n : Nat} {lv : List (Option Value)} {st : List Value} {μ : MI} {pc : Nat} (hC : CX Γ cc own L d nL0) {a N : Nat} {i : Int32} {r : List (Option Nat)} (hcell : L[a]? = some (.inr (1, N, r))) (hi : 0 ≤ i ∧ i.toNatClampNeg < N) (hd : decode cc pc = .ok (.baload, 1)) (kk : GX Γ L k n lv (.int (μ.1 a i.toNatClampNeg) :: st) μ (pc + 1)) : GX Γ L k n lv (.int i :: .ref (gad Γ a) :: st) μ pc := by
  obtain ⟨p, l, e, R, s, m, args, below, meth, c, Q, H0, dC, dI, Y, ad, A, nL⟩ := Γ
  obtain ⟨hx, hb, hml, hown, hts, hK, hA, hd1, hd2, hnl⟩ := hC
  intro H locs ls hP hS hl
  exact va_zald hx hb hK hP a 1 (ws_at hcell) rfl (vp_in_of2 hi) hd (kk H locs ls hP hS hl)

theorem GX_aald {Γ : GT} {cc : ByteArray} {own : String} {L : LY} {d nL0 k n : Nat} {lv : List (Option Value)} {st : List Value} {μ : MI} {pc : Nat} (hC : CX Γ cc own L d nL0) {a N : Nat} {i : Int32} {r : List (Option Nat)} (v : Nat) (hcell : L[a]? = some (.inr (3, N, r))) (hi : 0 ≤ i ∧ i.toNatClampNeg < N) (hv : r.getD i.toNatClampNeg none = some v) (hd : decode cc pc = .ok (.aaload, 1)) (kk : GX Γ L k n lv (.ref (gad Γ v) :: st) μ (pc + 1)) : GX Γ L k n lv (.int i :: .ref (gad Γ a) :: st) μ pc := by
  obtain ⟨p, l, e, R, s, m, args, below, meth, c, Q, H0, dC, dI, Y, ad, A, nL⟩ := Γ
  obtain ⟨hx, hb, hml, hown, hts, hK, hA, hd1, hd2, hnl⟩ := hC
  intro H locs ls hP hS hl
  refine va_aldq (C := RX8) hx hb hK hP a 3 (ws_at hcell) rfl (vp_in_of2 hi) hd ?_
  rw [hv]
  exact kk H locs ls hP hS hl

theorem GX_iast {Γ : GT} {cc : ByteArray} {own : String} {L : LY} {d nL0 k n : Nat} {lv : List (Option Value)} {st : List Value} {μ : MI} {pc : Nat} (hC : CX Γ cc own L d nL0) {a N : Nat} {i x : Int32} {r : List (Option Nat)} (hcell : L[a]? = some (.inr (0, N, r))) (hi : 0 ≤ i ∧ i.toNatClampNeg < N) (hd : decode cc pc = .ok (.iastore, 1)) (kk : GX Γ L k n lv st (si μ a i.toNatClampNeg x) (pc + 1)) : GX Γ L k n lv (.int x :: .int i :: .ref (gad Γ a) :: st) μ pc := by
  obtain ⟨p, l, e, R, s, m, args, below, meth, c, Q, H0, dC, dI, Y, ad, A, nL⟩ := Γ
  obtain ⟨hx, hb, hml, hown, hts, hK, hA, hd1, hd2, hnl⟩ := hC
  intro H locs ls hP hS hl
  refine va_iast hx hb hK hP (hA.D Y μ) hS a 0 (ws_at hcell) rfl (vp_in_of2 hi) hd (fun H1 locs1 hP1 _ hS1 => kk H1 locs1 ls ?_ hS1 hl)
  rw [si_sa, ← ws_sa hcell]
  simpa [cE, sa] using hP1

theorem GX_zast {Γ : GT} {cc : ByteArray} {own : String} {L : LY} {d nL0 k n : Nat} {lv : List (Option Value)} {st : List Value} {μ : MI} {pc : Nat} (hC : CX Γ cc own L d nL0) {a N : Nat} {i : Int32} {b : Bool} {r : List (Option Nat)} (hcell : L[a]? = some (.inr (1, N, r))) (hi : 0 ≤ i ∧ i.toNatClampNeg < N) (hd : decode cc pc = .ok (.bastore, 1)) (kk : GX Γ L k n lv st (si μ a i.toNatClampNeg (bI b)) (pc + 1)) : GX Γ L k n lv (.int (bI b) :: .int i :: .ref (gad Γ a) :: st) μ pc := by
  obtain ⟨p, l, e, R, s, m, args, below, meth, c, Q, H0, dC, dI, Y, ad, A, nL⟩ := Γ
  obtain ⟨hx, hb, hml, hown, hts, hK, hA, hd1, hd2, hnl⟩ := hC
  intro H locs ls hP hS hl
  refine va_zast hx hb hK hP (hA.D Y μ) hS a 1 (ws_at hcell) rfl (vp_in_of2 hi) hd (fun H1 locs1 hP1 _ hS1 => kk H1 locs1 ls ?_ hS1 hl)
  rw [vnar_b] at hP1
  rw [si_sa, ← ws_sa hcell]
  simpa [cE, sa] using hP1

theorem GX_last {Γ : GT} {cc : ByteArray} {own : String} {L : LY} {d nL0 k n : Nat} {lv : List (Option Value)} {st : List Value} {μ : MI} {pc : Nat} (hC : CX Γ cc own L d nL0) {a N : Nat} {i : Int32} {x : Int64} {r : List (Option Nat)} (hcell : L[a]? = some (.inr (2, N, r))) (hi : 0 ≤ i ∧ i.toNatClampNeg < N) (hd : decode cc pc = .ok (.lastore, 1)) (kk : GX Γ L k n lv st (sl μ a i.toNatClampNeg x) (pc + 1)) : GX Γ L k n lv (.long x :: .int i :: .ref (gad Γ a) :: st) μ pc := by
  obtain ⟨p, l, e, R, s, m, args, below, meth, c, Q, H0, dC, dI, Y, ad, A, nL⟩ := Γ
  obtain ⟨hx, hb, hml, hown, hts, hK, hA, hd1, hd2, hnl⟩ := hC
  intro H locs ls hP hS hl
  refine va_last hx hb hK hP (hA.D Y μ) hS a 2 (ws_at hcell) rfl (vp_in_of2 hi) hd (fun H1 locs1 hP1 _ hS1 => kk H1 locs1 ls ?_ hS1 hl)
  rw [← ws_sl hcell]
  simpa [cE, sl] using hP1

theorem GX_alen {Γ : GT} {cc : ByteArray} {own : String} {L : LY} {d nL0 k n : Nat} {lv : List (Option Value)} {st : List Value} {μ : MI} {pc : Nat} (hC : CX Γ cc own L d nL0) {a z N : Nat} {r : List (Option Nat)} (v : Int32) (hcell : L[a]? = some (.inr (z, N, r))) (hz : z < 4) (hv : Int32.ofNat N = v) (hd : decode cc pc = .ok (.arraylength, 1)) (kk : GX Γ L k n lv (.int v :: st) μ (pc + 1)) : GX Γ L k n lv (.ref (gad Γ a) :: st) μ pc := by
  obtain ⟨p, l, e, R, s, m, args, below, meth, c, Q, H0, dC, dI, Y, ad, A, nL⟩ := Γ
  obtain ⟨hx, hb, hml, hown, hts, hK, hA, hd1, hd2, hnl⟩ := hC
  intro H locs ls hP hS hl
  have he := ws_at (ad := ad) (Y := Y) (μ := μ) hcell
  have hcs : z = 0 ∨ z = 1 ∨ z = 2 ∨ z = 3 := by omega
  rcases hcs with rfl | rfl | rfl | rfl
  · exact va_alen hx hb hK hP a 0 he rfl hv hd (kk H locs ls hP hS hl)
  · exact va_alen hx hb hK hP a 1 he rfl hv hd (kk H locs ls hP hS hl)
  · exact va_alen hx hb hK hP a 2 he rfl hv hd (kk H locs ls hP hS hl)
  · exact va_alen hx hb hK hP a 3 he rfl hv hd (kk H locs ls hP hS hl)

def mth_max (own : String) (ix : Nat) : Prop := Cond.methodLink own ix Lib.Math.max.name ∈ TT ∧ Cond.static Lib.Math.max.name ∈ TT ∧ Cond.initialized "java/lang/Math" ∈ TT ∧ Cond.code Lib.Math.max.name Lib.Math.max.code 2 (some .int) ∈ TT
theorem GX_max {Γ : GT} {cc : ByteArray} {own : String} {L : LY} {d nL0 k n : Nat} {lv : List (Option Value)} {st : List Value} {μ : MI} {pc : Nat} (hC : CX Γ cc own L d nL0) {ix : Nat} {x y : Int32} (hm : mth_max own ix) (h1 : 1 ≤ d) (hk : kX Γ k n) (hs : (st.map fun v => v.category).sum ≤ 20) (hd : decode cc pc = .ok (.invokestatic ix, 3)) (kk : GX Γ L k n lv (.int (if x < y then y else x) :: st) μ (pc + 3)) : GX Γ L k n lv (.int y :: .int x :: st) μ pc := by
  obtain ⟨p, l, e, R, s, m, args, below, meth, c, Q, H0, dC, dI, Y, ad, A, nL⟩ := Γ
  obtain ⟨hx, hb, hml, hown, hts, hK, hA, hd1, hd2, hnl⟩ := hC
  intro H locs ls hP hS hl
  exact va_mmax hx hb (by rw [hml]; exact hl.1.symm) hown (hts _ hm.1) (hts _ hm.2.1) (hts _ hm.2.2.1) (hts _ hm.2.2.2) (by omega) (by omega) hk.1 hk.2 hd (kk H locs ls hP hS hl)

def mth_min (own : String) (ix : Nat) : Prop := Cond.methodLink own ix Lib.Math.min.name ∈ TT ∧ Cond.static Lib.Math.min.name ∈ TT ∧ Cond.initialized "java/lang/Math" ∈ TT ∧ Cond.code Lib.Math.min.name Lib.Math.min.code 2 (some .int) ∈ TT
theorem GX_min {Γ : GT} {cc : ByteArray} {own : String} {L : LY} {d nL0 k n : Nat} {lv : List (Option Value)} {st : List Value} {μ : MI} {pc : Nat} (hC : CX Γ cc own L d nL0) {ix : Nat} {x y : Int32} (hm : mth_min own ix) (h1 : 1 ≤ d) (hk : kX Γ k n) (hs : (st.map fun v => v.category).sum ≤ 20) (hd : decode cc pc = .ok (.invokestatic ix, 3)) (kk : GX Γ L k n lv (.int (if y < x then y else x) :: st) μ (pc + 3)) : GX Γ L k n lv (.int y :: .int x :: st) μ pc := by
  obtain ⟨p, l, e, R, s, m, args, below, meth, c, Q, H0, dC, dI, Y, ad, A, nL⟩ := Γ
  obtain ⟨hx, hb, hml, hown, hts, hK, hA, hd1, hd2, hnl⟩ := hC
  intro H locs ls hP hS hl
  exact va_mmin hx hb (by rw [hml]; exact hl.1.symm) hown (hts _ hm.1) (hts _ hm.2.1) (hts _ hm.2.2.1) (hts _ hm.2.2.2) (by omega) (by omega) hk.1 hk.2 hd (kk H locs ls hP hS hl)

def acpOK (own : String) (ix : Nat) : Prop := Cond.methodLink own ix arraycopyName ∈ TT ∧ Cond.native arraycopyName ∈ TT ∧ Cond.static arraycopyName ∈ TT ∧ Cond.initialized "java/lang/System" ∈ TT
theorem GX_acopy {Γ : GT} {cc : ByteArray} {own : String} {L : LY} {d nL0 k n : Nat} {lv : List (Option Value)} {st : List Value} {μ : MI} {pc : Nat} (hC : CX Γ cc own L d nL0) {ix a b na nb : Nat} {ra rb : List (Option Nat)} {sp dp len : Int32} (hm : acpOK own ix) (h1 : 1 ≤ d) (ha : L[a]? = some (.inr (0, na, ra))) (hbb : L[b]? = some (.inr (0, nb, rb))) (q1 : 0 ≤ sp) (q2 : 0 ≤ dp) (q3 : 0 ≤ len) (q4 : sp.toNatClampNeg + len.toNatClampNeg ≤ na) (q5 : dp.toNatClampNeg + len.toNatClampNeg ≤ nb) (hs : (st.map fun v => v.category).sum ≤ 8) (hd : decode cc pc = .ok (.invokestatic ix, 3)) (kk : GX Γ L k n lv st (sa μ b (va_cpy (μ.1 a) (μ.1 b) sp.toNatClampNeg dp.toNatClampNeg len.toNatClampNeg)) (pc + 3)) : GX Γ L k n lv (.int len :: .int dp :: .ref (gad Γ b) :: .int sp :: .ref (gad Γ a) :: st) μ pc := by
  obtain ⟨p, l, e, R, s, m, args, below, meth, c, Q, H0, dC, dI, Y, ad, A, nL⟩ := Γ
  obtain ⟨hx, hb, hml, hown, hts, hK, hA, hd1, hd2, hnl⟩ := hC
  intro H locs ls hP hS hl
  refine va_copyi (ty := .int) hx hb (by rw [hml]; exact hl.1.symm) hown (hts _ hm.1) (hts _ hm.2.1) (hts _ hm.2.2.1) (hts _ hm.2.2.2) hK hP (hA.D Y μ) hS a b 0 0 (ws_at ha) (ws_at hbb) rfl rfl rfl (i32_le_nlt.mp q1) (i32_le_nlt.mp q2) (i32_le_nlt.mp q3) q4 q5 (fun _ _ => rfl) (by omega) (Nat.le_trans (Nat.add_le_add_right hs _) (Nat.le_trans ?_ hd2)) hd (fun H1 locs1 hP1 _ hS1 => kk H1 locs1 ls ?_ hS1 hl)
  · exact Nat.le_trans (Nat.le_of_ble_eq_true rfl : _ ≤ 100 * 1) (Nat.mul_le_mul_left 100 h1)
  · rw [← ws_sa hbb]
    simpa [cE, sa] using hP1

