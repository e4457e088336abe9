/-! ===== shelves ===== -/
theorem li_200 : (200 : Int32) = nI 200 := by decide
theorem li_1000 : (1000 : Int32) = nI 1000 := by decide
theorem onN_0 {α : Type} (a : α) (f : Nat → α) : onN none a f = a := rfl
theorem onN_1 {α : Type} (s : Nat) (a : α) (f : Nat → α) : onN (some s) a f = f s := rfl
theorem sh_no {x : Int32} (h : inR x 8 = false) : N_shelfAt x = none := by
  unfold N_shelfAt
  rw [if_neg]
  rintro ⟨h1, h2⟩
  have h3 := of_decide_eq_false h
  apply h3
  rw [Int32.le_iff_toInt_le] at h1
  have h1 : 0 ≤ x.toInt := h1
  obtain ⟨j, hj, rfl⟩ := nI_of (x := x) (by rw [Int32.lt_iff_toInt_lt]; show ¬ x.toInt < 0; omega)
  rw [nI_clamp hj] at h2
  rw [nI_toInt hj]; omega
theorem sh_yes {d : Nat} (h : d < 8) : N_shelfAt (nI d) = some (38 + 3 * d) := by
  unfold N_shelfAt
  rw [nI_clamp (by omega), if_pos ⟨nI_pos' (by omega), h⟩]
theorem rm_n {a b : Nat} (ha : a < 2 ^ 31) (h0 : 0 < b) (hb : b < 2 ^ 31) : rm32 (nI a) (nI b) = nI (a % b) := pk_rem ha h0 hb
def rk (h v : Nat) : Int32 := if h = 0 then -11 else if h = v then 0 else -12
def rb (h s : Nat) : Int32 := if h = 2 then (if s = 0 then 0 else -12) else rk h 2
theorem c_refusal {s h v : Nat} {μ : MI} (e : μ.1 s 0 = nI h) (hh : h ≤ 2) (hv : v ≤ 2) : Shelf_refusalUnless s (nI v) μ = some (rk h v) := by
  unfold Shelf_refusalUnless rk
  rw [e]
  rcases (by omega : h = 0 ∨ h = 1 ∨ h = 2) with rfl | rfl | rfl <;> rcases (by omega : v = 0 ∨ v = 1 ∨ v = 2) with rfl | rfl | rfl <;> rfl
theorem c_bytes {s h so : Nat} {μ : MI} (e : μ.1 s 0 = nI h) (hh : h ≤ 2) (es : h = 2 → μ.1 s 1 = nI so ∧ so ≤ 2) : Shelf_bytesRefusal s μ = some (rb h so) := by
  unfold Shelf_bytesRefusal
  rw [show (2 : Int32) = nI 2 from rfl, c_refusal e hh (v := 2) (by omega)]
  unfold rb
  rcases (by omega : h = 0 ∨ h = 1 ∨ h = 2) with rfl | rfl | rfl
  · rfl
  · rfl
  · obtain ⟨e1, e2⟩ := es rfl
    rw [e1]
    rcases (by omega : so = 0 ∨ so = 1 ∨ so = 2) with rfl | rfl | rfl <;> rfl
theorem m_wrongRow_no {x : Int32} (h : inR x 8 = false) (μ : MI) : M_wrongRow x μ = some (-1) := by
  unfold M_wrongRow
  rw [M_in7, h]; rfl
theorem m_wrongMove_no {x : Int32} (h : inR x 8 = false) (μ : MI) : M_wrongMove x μ = some (-1) := by
  unfold M_wrongMove
  rw [M_in7, h]; rfl
theorem m_wrongBytes_no {x : Int32} (h : inR x 8 = false) (μ : MI) : M_wrongBytes x μ = some (-1) := by
  unfold M_wrongBytes
  rw [m_wrongRow_no h]; rfl
theorem m_wrongRow {d h : Nat} {μ : MI} (hd : d < 8) (e : μ.1 85 d = nI h) (hh : h ≤ 2) : M_wrongRow (nI d) μ = some (rk h 2) := by
  unfold M_wrongRow rk
  rw [M_in7, inR_n (by omega), decide_eq_true hd, ldA_n hd (by omega), e]
  rcases (by omega : h = 0 ∨ h = 1 ∨ h = 2) with rfl | rfl | rfl <;> rfl
theorem m_wrongMove {d h : Nat} {μ : MI} (hd : d < 8) (e : μ.1 85 d = nI h) (hh : h ≤ 2) : M_wrongMove (nI d) μ = some (rk h 1) := by
  unfold M_wrongMove rk
  rw [M_in7, inR_n (by omega), decide_eq_true hd, ldA_n hd (by omega), e]
  rcases (by omega : h = 0 ∨ h = 1 ∨ h = 2) with rfl | rfl | rfl <;> rfl
theorem m_wrongBytes {d h so : Nat} {μ : MI} (hd : d < 8) (e : μ.1 85 d = nI h) (hh : h ≤ 2) (es : h = 2 → μ.1 88 d = nI so ∧ so ≤ 2) : M_wrongBytes (nI d) μ = some (rb h so) := by
  unfold M_wrongBytes
  rw [m_wrongRow hd e hh, ldA_n hd (by omega)]
  unfold rb
  rcases (by omega : h = 0 ∨ h = 1 ∨ h = 2) with rfl | rfl | rfl
  · rfl
  · rfl
  · obtain ⟨e1, e2⟩ := es rfl
    rw [e1]
    rcases (by omega : so = 0 ∨ so = 1 ∨ so = 2) with rfl | rfl | rfl <;> rfl
theorem SHR.t0 {d μ} (h : SHR d μ) (hd : d < 8) : SHR d (si μ 62 10 (nI 0)) := h.fr (fun a h1 h2 => by rw [si_ne (by omega)]) (fun a h1 h2 => by rw [si_ne (by omega)]) (fun i hi => rfl)
def fe (k f : Nat) : Nat := if k = 1 then 2 + f else if k = 2 then 6 else if k = 3 then 7 else if k = 4 then 2 * (2 + f) else if k = 5 then 9 else if k = 6 then 0 else 2
theorem c_fee {t k f : Nat} {μ : MI} (hk : k < 8) (hf : f < 10) (e0 : μ.1 t 0 = nI k) (e4 : μ.1 t 4 = nI f) : Move_feeAsked t μ = some (nI (fe k f)) := by
  unfold Move_feeAsked fe
  rw [e0, e4]
  simp only [li_0, li_1, li_2, li_3, li_4, li_5, li_6, li_7, li_9, nI_add, pk_mul, Option.bind_some, Option.bind_none, if_true, if_false, ite_true, ite_false, Bool.false_eq_true, Bool.true_eq_false, Bool.not_true, Bool.not_false, decide_true, decide_false, decide_eq_true_eq, Sum.elim_inl, Sum.elim_inr, ne_eq, not_true, not_false_iff, reduceIte, reduceCtorEq, Bool.cond_true, Bool.cond_false]
  rcases (by omega : k = 0 ∨ k = 1 ∨ k = 2 ∨ k = 3 ∨ k = 4 ∨ k = 5 ∨ k = 6 ∨ k = 7) with rfl | rfl | rfl | rfl | rfl | rfl | rfl | rfl
  · rfl
  · rfl
  · rfl
  · rfl
  · rfl
  · rfl
  · rfl
  · show some (nI (2 + f) - nI f) = some (nI 2)
    rw [pk_sub (by omega), Nat.add_sub_cancel]
theorem m_feeOf {d k v : Nat} {μ : MI} (hd : d < 8) (hk : k < 8) (hv : v < 10000) (e0 : μ.1 86 d = nI k) (e4 : μ.1 87 d = nI v) : M_feeOf (nI d) μ = some (nI (fe k (v % 10))) := by
  unfold M_feeOf fe
  rw [ldA_n hd (by omega), ldA_n hd (by omega), e0, e4]
  simp only [li_0, li_1, li_2, li_3, li_4, li_5, li_6, li_7, li_9, li_10, rm_n (show v < 2 ^ 31 by omega) (show 0 < 10 by omega) (show 10 < 2 ^ 31 by omega), nI_add, pk_mul, Option.bind_some, Option.bind_none, if_true, if_false, ite_true, ite_false, Bool.false_eq_true, Bool.true_eq_false, Bool.not_true, Bool.not_false, decide_true, decide_false, decide_eq_true_eq, Sum.elim_inl, Sum.elim_inr, ne_eq, not_true, not_false_iff, reduceIte, reduceCtorEq, Bool.cond_true, Bool.cond_false]
  rcases (by omega : k = 0 ∨ k = 1 ∨ k = 2 ∨ k = 3 ∨ k = 4 ∨ k = 5 ∨ k = 6 ∨ k = 7) with rfl | rfl | rfl | rfl | rfl | rfl | rfl | rfl
  · rfl
  · rfl
  · rfl
  · rfl
  · show some (nI (4 + 2 * (v % 10))) = some (nI (2 * (2 + v % 10)))
    congr 2; omega
  · rfl
  · rfl
  · rfl
theorem L_31 {μ : MI} (h : INV μ) (x : Int32) : ∃ μ', Lc_31 x μ = some μ' ∧ INV μ' := by
  refine ⟨si μ 62 10 (nI 0), ?_, Lc_same h (ag_rf _ _) (ag_62 (by omega))⟩
  have both : ∃ r, N_fee x μ = some r ∧ M_fee x μ = some (r, si μ 62 10 (nI 0)) := by
    unfold N_fee M_fee
    rw [thr0]
    simp only [Option.bind_some]
    cases hx : inR x 8
    · rw [sh_no hx, m_wrongMove_no hx]
      exact ⟨_, rfl, rfl⟩
    · obtain ⟨d, hd, rfl⟩ := inR_t hx
      obtain ⟨q, q1, q2, q3, q4, q5⟩ := h.2.2 d hd
      have p3 : (si μ 62 10 (nI 0)).1 85 d = nI q := by rw [si_ne (by omega)]; exact q3
      rw [sh_yes hd, m_wrongMove hd p3 q1]
      simp only [onN_1, li_1, c_refusal q2 q1 (show 1 ≤ 2 by omega), Option.bind_some]
      rcases (by omega : q = 0 ∨ q = 1 ∨ q = 2) with rfl | rfl | rfl
      · exact ⟨_, rfl, rfl⟩
      · obtain ⟨k, v, k1, k2, k3, k4, k5, k6, k7, k8, k9⟩ := q4 rfl
        have z8 : (si μ 62 10 (nI 0)).1 86 d = nI k := by rw [si_ne (by omega)]; exact k8
        have z9 : (si μ 62 10 (nI 0)).1 87 d = nI v := by rw [si_ne (by omega)]; exact k9
        rw [show 38 + 3 * d + 1 = 39 + 3 * d by omega, c_fee k1 (show v % 10 < 10 by omega) k3 k7, m_feeOf hd k1 k2 z8 z9]
        exact ⟨_, rfl, rfl⟩
      · exact ⟨_, rfl, rfl⟩
  obtain ⟨r, h1, h2⟩ := both
  unfold Lc_31
  simp [h1, h2]
def ts (k f : Nat) : Int32 := if k = 6 ∨ f = 0 then -15 else if k = 3 then nI (f + 100) else if k = 7 then nI 202 else nI f
theorem ts_c : ∀ k, k < 8 → ∀ f, f < 10 → ((if nI k = 7 then some (200 + nI (fe k f)) else (if nI k = 3 then some (nI f + 100) else some (nI f)).bind fun x => some x).bind fun k' => some (if nI k ≠ 6 ∧ nI f ≠ 0 then k' else -15)) = some (ts k f) := by decide +kernel
theorem ts_m : ∀ k, k < 8 → ∀ f, f < 10 → (((if nI k = 6 then some true else some (decide (nI f = 0))) : Option Bool).bind fun c => if c = true then some (-15) else ((if nI k = 3 then some (100 + nI f) else (if nI k = 7 then (some (nI (fe k f)) : Option Int32).bind fun r => some (200 + r) else some (nI f)).bind fun x => some x))) = some (ts k f) := by decide +kernel
theorem c_toss {t k f : Nat} {μ : MI} (hk : k < 8) (hf : f < 10) (e0 : μ.1 t 0 = nI k) (e4 : μ.1 t 4 = nI f) : ((Move_failureNumber t μ).bind fun k' => some (if μ.1 t 0 ≠ 6 ∧ μ.1 t 4 ≠ 0 then k' else -15)) = some (ts k f) := by
  rw [← ts_c k hk f hf]
  unfold Move_failureNumber
  rw [c_fee hk hf e0 e4, e0, e4]
  rfl
theorem L_32 {μ : MI} (h : INV μ) (x : Int32) : ∃ μ', Lc_32 x μ = some μ' ∧ INV μ' := by
  refine ⟨si μ 62 10 (nI 0), ?_, Lc_same h (ag_rf _ _) (ag_62 (by omega))⟩
  have both : ∃ r, N_tossP x μ = some r ∧ M_toss x μ = some (r, si μ 62 10 (nI 0)) := by
    unfold N_tossP M_toss
    rw [thr0]
    simp only [Option.bind_some]
    cases hx : inR x 8
    · rw [sh_no hx, m_wrongMove_no hx]
      exact ⟨_, rfl, rfl⟩
    · obtain ⟨d, hd, rfl⟩ := inR_t hx
      obtain ⟨q, q1, q2, q3, q4, q5⟩ := h.2.2 d hd
      have p3 : (si μ 62 10 (nI 0)).1 85 d = nI q := by rw [si_ne (by omega)]; exact q3
      rw [sh_yes hd, m_wrongMove hd p3 q1]
      simp only [onN_1, li_1, c_refusal q2 q1 (show 1 ≤ 2 by omega), Option.bind_some]
      rcases (by omega : q = 0 ∨ q = 1 ∨ q = 2) with rfl | rfl | rfl
      · exact ⟨_, rfl, rfl⟩
      · obtain ⟨k, v, k1, k2, k3, k4, k5, k6, k7, k8, k9⟩ := q4 rfl
        have z8 : (si μ 62 10 (nI 0)).1 86 d = nI k := by rw [si_ne (by omega)]; exact k8
        have z9 : (si μ 62 10 (nI 0)).1 87 d = nI v := by rw [si_ne (by omega)]; exact k9
        have hr : rk 1 1 = 0 := rfl
        have n0 : ¬ ((0 : Int32) < 0) := by decide
        refine ⟨ts k (v % 10), ?_, ?_⟩
        · rw [hr, if_neg (show ¬ ((0 : Int32) ≠ 0) from fun e => e rfl), show 38 + 3 * d + 1 = 39 + 3 * d by omega, c_toss k1 (by omega) k3 k7]
        · have e := ts_m k k1 (v % 10) (by omega)
          rw [hr, if_neg n0, ldA_n hd (by omega), ldA_n hd (by omega), z8, z9, m_feeOf hd k1 k2 z8 z9]
          simp only [Option.bind_some, li_10, rm_n (show v < 2 ^ 31 by omega) (show 0 < 10 by omega) (show 10 < 2 ^ 31 by omega)]
          simp only [Option.bind_some] at e
          revert e
          cases hc : (if nI k = 6 then some true else some (decide (nI (v % 10) = 0)) : Option Bool)
          · intro e; cases e
          · rename_i c
            cases c
            · intro e
              simp only [Option.bind_some, Bool.false_eq_true, if_false] at e ⊢
              rw [e]
              rfl
            · intro e
              simp only [Option.bind_some, if_true] at e ⊢
              rw [← oi e]
      · exact ⟨_, rfl, rfl⟩
  obtain ⟨r, h1, h2⟩ := both
  unfold Lc_32
  simp [h1, h2]
