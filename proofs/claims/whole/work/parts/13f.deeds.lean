/-! ===== deeds ===== -/
theorem m1_bits : ∀ i, i < 32 → (-1 : Int32).toBitVec.getLsbD i = true := by decide +kernel
theorem andn_v (x y : Nat) : nI x &&& (nI y ^^^ (-1)) = nI (x &&& (x ^^^ y)) := by
  apply Int32.toBitVec_inj.1
  show BitVec.ofNat 32 x &&& (BitVec.ofNat 32 y ^^^ (-1 : Int32).toBitVec) = BitVec.ofNat 32 (x &&& (x ^^^ y))
  apply BitVec.eq_of_getLsbD_eq
  intro i hi
  rw [BitVec.getLsbD_and, BitVec.getLsbD_xor, m1_bits i hi, BitVec.getLsbD_ofNat, BitVec.getLsbD_ofNat, BitVec.getLsbD_ofNat, Nat.testBit_and, Nat.testBit_xor]
  rw [decide_eq_true hi]
  cases x.testBit i <;> cases y.testBit i <;> rfl
theorem andn_1 (x y : Nat) : nI x &&& (nI y ^^^ (-nI 1)) = nI (x &&& (x ^^^ y)) := andn_v x y
theorem andn_tb (x y i : Nat) : (x &&& (x ^^^ y)).testBit i = (x.testBit i && !(y.testBit i)) := by
  rw [Nat.testBit_and, Nat.testBit_xor]
  cases x.testBit i <;> cases y.testBit i <;> rfl
theorem z_tb {x : Nat} (hx : x < 2 ^ 31) : (nI x = nI 0) ↔ ∀ i, i < 31 → x.testBit i = false := by
  rw [nI_eq hx (by omega)]
  constructor
  · intro h i _; rw [h]; exact Nat.zero_testBit i
  · intro h
    apply Nat.eq_of_testBit_eq
    intro i
    rw [Nat.zero_testBit]
    by_cases hi : i < 31
    · exact h i hi
    · exact Nat.testBit_lt_two_pow (Nat.lt_of_lt_of_le hx (Nat.pow_le_pow_right (by decide) (by omega)))
def popc (k : Nat) : Nat := sm (fun i => k / 2 ^ i % 2) 8
theorem bc_v : ∀ k, k < 256 → bc (nI k) = nI (popc k) := by decide +kernel
theorem popc_le (k : Nat) : popc k ≤ 8 := by
  unfold popc
  have := sm_le (f := fun i => k / 2 ^ i % 2) (c := 1) (n := 8) (fun i _ => by show k / 2 ^ i % 2 ≤ 1; omega)
  omega
theorem m_ones {k : Nat} (hk : k < 256) : M_ones (nI k) = some (nI (popc k)) := by
  unfold M_ones
  have key : lp (M_ones_s1 (nI k)) FUEL (0, 0) = some (nI (popc k)) := by
    refine lp_seq (fun i => (nI (sm (fun i => k / 2 ^ i % 2) i), nI i)) 8 (by omega) (fun i hi => ?_) ?_
    · simp only [M_ones_s1, li_8, if_pos (nI_lt hi (show 8 < 2 ^ 31 by omega)), li_1, shr_v (show k < 2 ^ 31 by omega) (show i < 31 by omega), and1_v, nI_add, Option.bind_some, sm]
    · simp only [M_ones_s1, li_8, nI_ltI (show 8 < 2 ^ 31 by omega) (show 8 < 2 ^ 31 by omega), Nat.lt_irrefl, if_false]
      rfl
  rw [key]; rfl
def dv3 (e : Nat → Int32) (k : Nat) : Nat := (e k).toNatClampNeg
def clsh (A : LV) (e : Nat → Int32) (i j : Nat) : Bool := decide (dv3 e (3 * i + 2) = dv3 e (3 * j + 2)) && (if dv3 e (3 * i) = dv3 e (3 * j) then A.br (dv3 e (3 * i + 1)) (dv3 e (3 * j + 1)) else decide (dv3 e (3 * i + 1) = dv3 e (3 * j + 1)))
theorem clsh_sy {A : LV} (w : WF A) (e : Nat → Int32) (i j : Nat) : clsh A e i j = clsh A e j i := by
  unfold clsh
  rw [br_sy w]
  by_cases g1 : dv3 e (3 * i + 2) = dv3 e (3 * j + 2)
  · by_cases g2 : dv3 e (3 * i) = dv3 e (3 * j)
    · simp [g1, g2]
    · by_cases g3 : dv3 e (3 * i + 1) = dv3 e (3 * j + 1)
      · simp [g1, g2, g3, Ne.symm g2]
      · simp [g1, g2, g3, Ne.symm g2, Ne.symm g3]
  · simp [g1, Ne.symm g1]
theorem clsh_di {A : LV} (w : WF A) (e : Nat → Int32) (i : Nat) : clsh A e i i = false := by
  unfold clsh
  simp [br_di w]
def dGd (A : LV) (e : Nat → Int32) (i : Nat) : Bool := inR (e (3 * i)) A.p && inR (e (3 * i + 1)) A.n && inR (e (3 * i + 2)) 10
def dOk (A : LV) (e : Nat → Int32) (n s : Nat) : Bool := al (fun i => al (fun j => !(!(s.testBit i) && !(s.testBit j) && clsh A e i j)) i) n
theorem dOk_iff {A : LV} (w : WF A) {e : Nat → Int32} {n s : Nat} : dOk A e n s = true ↔ ∀ i j, i < n → j < n → s.testBit i = false → s.testBit j = false → clsh A e i j = false := by
  unfold dOk
  rw [al_iff]
  constructor
  · intro h i j hi hj ti tj
    have one : ∀ i j, i < n → j < i → s.testBit i = false → s.testBit j = false → clsh A e i j = false := fun i j hi hj ti tj => by
      have := al_iff.mp (h i hi) j hj
      rw [ti, tj] at this
      simpa using this
    rcases Nat.lt_trichotomy i j with q | q | q
    · rw [clsh_sy w]; exact one j i hj q tj ti
    · subst q; exact clsh_di w e i
    · exact one i j hi q ti tj
  · intro h i hi
    rw [al_iff]
    intro j hj
    cases ti : s.testBit i
    · cases tj : s.testBit j
      · rw [h i j hi (by omega) ti tj]; rfl
      · rfl
    · rfl
/-- the best by the fold of both -/
def dm (A : LV) (e : Nat → Int32) (n : Nat) : Nat → Nat
  | 0 => 2 ^ n - 1
  | k + 1 => if (decide (popc k < popc (dm A e n k)) && dOk A e n k) = true then k else dm A e n k
theorem two_le8 {n : Nat} (h : n ≤ 8) : 2 ^ n ≤ 256 := by
  have : 2 ^ n ≤ 2 ^ 8 := Nat.pow_le_pow_right (by decide) h
  omega
theorem dm_lt (A : LV) (e : Nat → Int32) {n : Nat} (hn : n ≤ 8) : ∀ k, k ≤ 2 ^ n → dm A e n k < 256
  | 0, _ => by
    have := two_le8 hn
    unfold dm
    have := Nat.two_pow_pos n
    omega
  | k + 1, hk => by
    have := two_le8 hn
    unfold dm
    split
    · omega
    · exact dm_lt A e hn k (by omega)
def sDeeds (A : LV) (e : Nat → Int32) (z : Nat) (x : Int32) : Int32 := if (decide (z % 3 = 0) && decide (z / 3 ≤ 8) && al (dGd A e) (z / 3)) = true then (if x = 0 then nI (dm A e (z / 3) (2 ^ (z / 3))) else nI (popc (dm A e (z / 3) (2 ^ (z / 3))))) else -13
theorem dGd_t {A : LV} (w : WF A) {e : Nat → Int32} {i : Nat} (h : dGd A e i = true) : (dv3 e (3 * i) < A.p ∧ e (3 * i) = nI (dv3 e (3 * i))) ∧ (dv3 e (3 * i + 1) < A.n ∧ e (3 * i + 1) = nI (dv3 e (3 * i + 1))) ∧ (dv3 e (3 * i + 2) < 10 ∧ e (3 * i + 2) = nI (dv3 e (3 * i + 2))) := by
  have hn := w.n6
  have hp := w.p3
  unfold dGd at h
  rw [Bool.and_eq_true, Bool.and_eq_true] at h
  obtain ⟨⟨h1, h2⟩, h3⟩ := h
  unfold dv3
  obtain ⟨a, ha, ea⟩ := inR_t h1
  obtain ⟨b, hb, eb⟩ := inR_t h2
  obtain ⟨c, hc, ec⟩ := inR_t h3
  rw [ea, eb, ec, nI_clamp (by omega), nI_clamp (by omega), nI_clamp (by omega)]
  exact ⟨⟨ha, rfl⟩, ⟨hb, rfl⟩, ⟨hc, rfl⟩⟩
theorem c_clash {A : LV} {m : MI} {s z : Nat} (h : CR 1 A m) (w : WF A) (e2 : m.1 s 2 = nI z) (hz : z ≤ 100) {i j : Nat} (hi : 3 * i + 2 < z) (hj : 3 * j + 2 < z) (gi : dGd A (m.1 (s + 2)) i = true) (gj : dGd A (m.1 (s + 2)) j = true) : DeedBook_clash 1 s (nI (3 * i)) (nI (3 * j)) m = some (clsh A (m.1 (s + 2)) i j) := by
  have hn := w.n6
  have hp := w.p3
  have at_ : ∀ k, k < z → Shelf_at s (nI k) m = some (m.1 (s + 2) k) := fun k hk => by
    rw [c_at e2 hz, inR_n (by omega), decide_eq_true hk, if_pos rfl, nI_clamp (by omega)]
  obtain ⟨⟨p1, p2⟩, ⟨f1, f2⟩, ⟨y1, y2⟩⟩ := dGd_t w gi
  obtain ⟨⟨q1, q2⟩, ⟨g1, g2⟩, ⟨u1, u2⟩⟩ := dGd_t w gj
  unfold DeedBook_clash clsh
  simp only [li_1, li_2, nI_add, at_ (3 * i) (by omega), at_ (3 * i + 1) (by omega), at_ (3 * i + 2) hi, at_ (3 * j) (by omega), at_ (3 * j + 1) (by omega), at_ (3 * j + 2) hj, Option.bind_some]
  rw [p2, q2, f2, g2, y2, u2]
  have ey : (nI (dv3 (m.1 (s + 2)) (3 * i + 2)) ≠ nI (dv3 (m.1 (s + 2)) (3 * j + 2))) ↔ ¬ (dv3 (m.1 (s + 2)) (3 * i + 2) = dv3 (m.1 (s + 2)) (3 * j + 2)) := by
    rw [ne_eq, nI_eq (by omega) (by omega)]
  by_cases gy : dv3 (m.1 (s + 2)) (3 * i + 2) = dv3 (m.1 (s + 2)) (3 * j + 2)
  · rw [if_neg (fun q => (ey.mp q) gy), decide_eq_true gy, Bool.true_and, c_bars h w (by omega) (by omega)]
    have ep : decide (nI (dv3 (m.1 (s + 2)) (3 * i)) = nI (dv3 (m.1 (s + 2)) (3 * j))) = decide (dv3 (m.1 (s + 2)) (3 * i) = dv3 (m.1 (s + 2)) (3 * j)) := decide_eq_decide.mpr (nI_eq (by omega) (by omega))
    have ef : decide (nI (dv3 (m.1 (s + 2)) (3 * i + 1)) = nI (dv3 (m.1 (s + 2)) (3 * j + 1))) = decide (dv3 (m.1 (s + 2)) (3 * i + 1) = dv3 (m.1 (s + 2)) (3 * j + 1)) := decide_eq_decide.mpr (nI_eq (by omega) (by omega))
    rw [ep, ef]
    by_cases gp : dv3 (m.1 (s + 2)) (3 * i) = dv3 (m.1 (s + 2)) (3 * j)
    · rw [decide_eq_true gp, if_pos rfl, if_pos gp]; rfl
    · rw [decide_eq_false gp, if_neg (by decide), if_neg gp]; rfl
  · rw [if_pos (ey.mpr gy), decide_eq_false gy, Bool.false_and]
theorem i64_inj (x y : Int32) : (x.toInt64 = y.toInt64) = (x = y) := by
  apply propext
  rw [← Int64.toInt_inj, ← Int32.toInt_inj, Int32.toInt_toInt64, Int32.toInt_toInt64]
theorem m_clash {A : LV} {m : MI} {d : Nat} {e : Nat → Int32} (hd : d < 8) (h : MR A m) (w : WF A) (he : ∀ i, i < 100 → m.2 90 (100 * d + i) = (e i).toInt64) {i j : Nat} (hi : 3 * i + 2 < 100) (hj : 3 * j + 2 < 100) (gi : dGd A e i = true) (gj : dGd A e j = true) : M_doClash (nI d) (nI i) (nI j) m = some (clsh A e i j) := by
  have hn := w.n6
  have hp := w.p3
  have at_ : ∀ k, k < 100 → ldL 800 m 90 (nI (100 * d + k)) = some (e k).toInt64 := fun k hk => by
    rw [ldL_n (by omega) (by omega), he k hk]
  obtain ⟨⟨p1, p2⟩, ⟨f1, f2⟩, ⟨y1, y2⟩⟩ := dGd_t w gi
  obtain ⟨⟨q1, q2⟩, ⟨g1, g2⟩, ⟨u1, u2⟩⟩ := dGd_t w gj
  unfold M_doClash clsh
  have a1 := fun k => at_ (3 * i + k)
  have a2 := fun k => at_ (3 * j + k)
  simp only [li_1, li_2, li_3, li_100, pk_mul, nI_add, Nat.add_assoc, at_ (3 * i) (by omega), a1 1 (by omega), a1 2 (by omega), at_ (3 * j) (by omega), a2 1 (by omega), a2 2 (by omega), Option.bind_some, i64_32, i64_inj]
  rw [p2, q2, f2, g2, y2, u2]
  have ey : decide (nI (dv3 e (3 * i + 2)) = nI (dv3 e (3 * j + 2))) = decide (dv3 e (3 * i + 2) = dv3 e (3 * j + 2)) := decide_eq_decide.mpr (nI_eq (by omega) (by omega))
  have ef : decide (nI (dv3 e (3 * i + 1)) = nI (dv3 e (3 * j + 1))) = decide (dv3 e (3 * i + 1) = dv3 e (3 * j + 1)) := decide_eq_decide.mpr (nI_eq (by omega) (by omega))
  rw [ey, ef, m_bars h w f1 g1]
  have ep : (nI (dv3 e (3 * i)) = nI (dv3 e (3 * j))) ↔ (dv3 e (3 * i) = dv3 e (3 * j)) := nI_eq (by omega) (by omega)
  have ef2 : (nI (dv3 e (3 * i + 1)) ≠ nI (dv3 e (3 * j + 1))) ↔ ¬ (dv3 e (3 * i + 1) = dv3 e (3 * j + 1)) := by rw [ne_eq, nI_eq (by omega) (by omega)]
  by_cases gy : dv3 e (3 * i + 2) = dv3 e (3 * j + 2)
  · rw [decide_eq_true gy, if_pos rfl, Bool.true_and]
    by_cases gp : dv3 e (3 * i) = dv3 e (3 * j)
    · rw [if_pos (ep.mpr gp), if_pos gp]
      by_cases gf : dv3 e (3 * i + 1) = dv3 e (3 * j + 1)
      · rw [if_neg (fun q => (ef2.mp q) gf), gf, br_di w]; rfl
      · rw [if_pos (ef2.mpr gf)]; rfl
    · rw [if_neg (fun q => gp (ep.mp q)), if_neg gp]; rfl
  · rw [decide_eq_false gy, if_neg (by decide), Bool.false_and]; rfl
