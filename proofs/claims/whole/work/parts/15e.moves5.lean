def thrB (A : LV) (k q f o g : Nat) : Bool := decide (q < A.p) && (decide (f < A.n) && ((!(decide (k = 2 ∨ k = 3 ∨ k = 5)) || decide (o < A.n)) && (!(decide (k = 3)) || decide (g < A.n))))
theorem thrB_t {A : LV} {k q f o g : Nat} (h : thrB A k q f o g = true) (hk : k < 8) (hg : g < 10) (ho : o < 10) : thr_ A k q f o g := by
  unfold thrB at h
  rw [Bool.and_eq_true, Bool.and_eq_true, Bool.and_eq_true, decide_eq_true_eq, decide_eq_true_eq] at h
  obtain ⟨h1, h2, h3, h4⟩ := h
  refine ⟨hk, h1, h2, hg, ho, fun e => ?_, fun e => ?_⟩
  · rw [decide_eq_true e] at h3; simpa using h3
  · rw [decide_eq_true e] at h4; simpa using h4
theorem c_isThere {A : LV} {μ : MI} {t k q f o g : Nat} (h : CR 1 A μ) (w : WF A) (hm : MC t k q f o g μ) (hk : k < 8) (hq : q < 10) (hf : f < 10) (hg : g < 10) (ho : o < 10) : Move_isThere t 1 μ = some (thrB A k q f o g) := by
  obtain ⟨m0, m1, m2, m3, m4⟩ := hm
  unfold Move_isThere thrB
  rw [m0, m1, m2, m3, m4, c_isPerson h w, c_isField h w, c_isField h w, c_isField h w, inR_n (show q < 2 ^ 31 by omega), inR_n (show f < 2 ^ 31 by omega), inR_n (show o < 2 ^ 31 by omega), inR_n (show g < 2 ^ 31 by omega)]
  generalize decide (q < A.p) = b1
  generalize decide (f < A.n) = b2
  generalize decide (o < A.n) = b3
  generalize decide (g < A.n) = b4
  rcases (by omega : k = 0 ∨ k = 1 ∨ k = 2 ∨ k = 3 ∨ k = 4 ∨ k = 5 ∨ k = 6 ∨ k = 7) with rfl | rfl | rfl | rfl | rfl | rfl | rfl | rfl <;> cases b1 <;> cases b2 <;> cases b3 <;> cases b4 <;> rfl
theorem m_openMove {A : LV} {μ : MI} {d k v : Nat} (hd : d < 8) (h : MR A μ) (w : WF A) (hk : k < 8) (hv : v < 10000) (e8 : μ.1 86 d = nI k) (e9 : μ.1 87 d = nI v) : ∃ u, M_openMove (nI d) μ = some (thrB A k (v / 1000) (v / 100 % 10) (v / 10 % 10) (v % 10), u) ∧ MM k (v / 1000) (v / 100 % 10) (v / 10 % 10) (v % 10) u ∧ ag pM μ u := by
  have d1 : nI v / 1000 = nI (v / 1000) := pk_div (d := 1000) (by omega) (by omega) (by omega)
  have d2 : nI v / 100 = nI (v / 100) := pk_div (d := 100) (by omega) (by omega) (by omega)
  have d3 : nI v / 10 = nI (v / 10) := pk_div (d := 10) (by omega) (by omega) (by omega)
  have m2 : rm32 (nI (v / 100)) 10 = nI (v / 100 % 10) := rm_n (b := 10) (by omega) (by omega) (by omega)
  have m3 : rm32 (nI (v / 10)) 10 = nI (v / 10 % 10) := rm_n (b := 10) (by omega) (by omega) (by omega)
  have m4 : rm32 (nI v) 10 = nI (v % 10) := rm_n (b := 10) (by omega) (by omega) (by omega)
  have ld : ∀ (m : MI) (c : Nat), ldA 8 m c (nI d) = some (m.1 c d) := fun m c => ldA_n hd (by omega)
  have gu : ag pM μ (si (si (si (si (si μ 62 26 (nI k)) 62 22 (nI (v / 1000))) 62 23 (nI (v / 100 % 10))) 62 24 (nI (v / 10 % 10))) 62 25 (nI (v % 10))) := ag_st (ag_st (ag_st (ag_st (ag_62 (by omega)) (Or.inl (by omega))) (Or.inl (by omega))) (Or.inl (by omega))) (Or.inl (by omega))
  have mm : MM k (v / 1000) (v / 100 % 10) (v / 10 % 10) (v % 10) (si (si (si (si (si μ 62 26 (nI k)) 62 22 (nI (v / 1000))) 62 23 (nI (v / 100 % 10))) 62 24 (nI (v / 10 % 10))) 62 25 (nI (v % 10))) := by
    refine ⟨?_, ?_, ?_, ?_, ?_⟩
    · rw [si_v, if_neg (by omega), si_v, if_neg (by omega), si_v, if_neg (by omega), si_v, if_neg (by omega), si_v, if_pos ⟨rfl, rfl⟩]
    · rw [si_v, if_neg (by omega), si_v, if_neg (by omega), si_v, if_neg (by omega), si_v, if_pos ⟨rfl, rfl⟩]
    · rw [si_v, if_neg (by omega), si_v, if_neg (by omega), si_v, if_pos ⟨rfl, rfl⟩]
    · rw [si_v, if_neg (by omega), si_v, if_pos ⟨rfl, rfl⟩]
    · rw [si_v, if_pos ⟨rfl, rfl⟩]
  refine ⟨_, ?_, mm, gu⟩
  have hu : MR A _ := h.agM gu
  unfold M_openMove
  simp only [ld, stF, Option.bind_some, e8, si_ne (show (87 : Nat) ≠ 62 by omega), e9, d1, d2, d3, m2, m3, m4]
  generalize si (si (si (si (si μ 62 26 (nI k)) 62 22 (nI (v / 1000))) 62 23 (nI (v / 100 % 10))) 62 24 (nI (v / 10 % 10))) 62 25 (nI (v % 10)) = u at mm hu ⊢
  obtain ⟨u0, u1, u2, u3, u4⟩ := mm
  rw [u0, u1, u2, u3, u4, m_isPerson hu w, m_isField hu w, m_isField hu w, m_isField hu w, inR_n (show v / 1000 < 2 ^ 31 by omega), inR_n (show v / 100 % 10 < 2 ^ 31 by omega), inR_n (show v / 10 % 10 < 2 ^ 31 by omega), inR_n (show v % 10 < 2 ^ 31 by omega)]
  unfold thrB
  generalize decide (v / 1000 < A.p) = b1
  generalize decide (v / 100 % 10 < A.n) = b2
  generalize decide (v / 10 % 10 < A.n) = b3
  generalize decide (v % 10 < A.n) = b4
  rcases (by omega : k = 0 ∨ k = 1 ∨ k = 2 ∨ k = 3 ∨ k = 4 ∨ k = 5 ∨ k = 6 ∨ k = 7) with rfl | rfl | rfl | rfl | rfl | rfl | rfl | rfl <;> cases b1 <;> cases b2 <;> cases b3 <;> cases b4 <;> rfl
theorem move_cases {μ : MI} (h : INV μ) (x : Int32) : (N_shelfAt x = none ∧ ∀ m, M_wrongMove x m = some (-1)) ∨ (∃ d r, d < 8 ∧ x = nI d ∧ r < 0 ∧ N_shelfAt x = some (38 + 3 * d) ∧ Shelf_refusalUnless (38 + 3 * d) 1 μ = some r ∧ ∀ m : MI, m.1 85 d = μ.1 85 d → M_wrongMove x m = some r) ∨ (∃ d k v, d < 8 ∧ x = nI d ∧ k < 8 ∧ v < 10000 ∧ N_shelfAt x = some (38 + 3 * d) ∧ Shelf_refusalUnless (38 + 3 * d) 1 μ = some 0 ∧ (∀ m : MI, m.1 85 d = μ.1 85 d → M_wrongMove x m = some 0) ∧ MC (38 + 3 * d + 1) k (v / 1000) (v / 100 % 10) (v / 10 % 10) (v % 10) μ ∧ μ.1 86 d = nI k ∧ μ.1 87 d = nI v) := by
  cases hx : inR x 8
  · exact Or.inl ⟨sh_no hx, fun m => m_wrongMove_no hx m⟩
  obtain ⟨d, hd, rfl⟩ := inR_t hx
  obtain ⟨q, q1, q2, q3, q4, q5⟩ := h.2.2 d hd
  have b1 := c_refusal (v := 1) q2 q1 (by omega)
  have b2 : ∀ m : MI, m.1 85 d = μ.1 85 d → M_wrongMove (nI d) m = some (rk q 1) := fun m e1 => m_wrongMove hd (e1.trans q3) q1
  by_cases e1 : q = 1
  · subst e1
    obtain ⟨k, v, k1, k2, k3, k4, k5, k6, k7, k8, k9⟩ := q4 rfl
    have e39 : 39 + 3 * d = 38 + 3 * d + 1 := by omega
    rw [e39] at k3 k4 k5 k6 k7
    exact Or.inr (Or.inr ⟨d, k, v, hd, rfl, k1, k2, sh_yes hd, b1, b2, ⟨k3, k4, k5, k6, k7⟩, k8, k9⟩)
  · refine Or.inr (Or.inl ⟨d, rk q 1, hd, rfl, ?_, sh_yes hd, b1, b2⟩)
    rcases (by omega : q = 0 ∨ q = 2) with rfl | rfl <;> decide
theorem c_moveRefusal {A : LV} {μ : MI} {s k q f o g : Nat} (h : CR 1 A μ) (w : WF A) (b : Shelf_refusalUnless s 1 μ = some 0) (hm : MC (s + 1) k q f o g μ) (hk : k < 8) (hq : q < 10) (hf : f < 10) (hg : g < 10) (ho : o < 10) : N_moveRefusal s μ = some (if thrB A k q f o g = true then 0 else -13) := by
  unfold N_moveRefusal
  rw [b]
  simp only [Option.bind_some, if_true, c_isThere h w hm hk hq hf hg ho]
  cases thrB A k q f o g <;> rfl
theorem L_9 {μ : MI} (h : INV μ) (x y : Int32) : ∃ μ', Lc_9 x y μ = some μ' ∧ INV μ' := by
  have g0 : INV (si μ 62 10 (nI 0)) := Lc_same h (ag_rf _ _) (ag_62 (by omega))
  have r1 := rng_c (x := y) (c := 1) (by omega)
  rw [show (nI 0 : Int32) = 0 from rfl, show (nI 1 : Int32) = 1 from rfl] at r1
  have r85 : (si μ 62 10 (nI 0)).1 85 = μ.1 85 := si_ne (by omega)
  have n0 : ¬ ((0 : Int32) ≠ 0) := fun e => e rfl
  have n1 : decide ((0 : Int32) < 0) = false := by decide
  have n2 : decide ((-1 : Int32) < 0) = true := by decide
  have both : ∃ r μ1 μ2, N_may x y μ = some (r, μ1) ∧ M_may x y μ1 = some (r, μ2) ∧ INV μ2 := by
    cases hy : inR y 2
    · refine ⟨-1, μ, si μ 62 10 (nI 0), ?_, ?_, g0⟩
      · unfold N_may
        rcases move_cases h x with ⟨b1, b2⟩ | ⟨d, r, hd, rfl, hr, b1, b2, b3⟩ | ⟨d, k, v, hd, rfl, hk, hv, b1, b2, b3, b4, b5, b6⟩
        · rw [b1]; rfl
        · rw [b1, onN_1, r1, hy]; rfl
        · rw [b1, onN_1, r1, hy]; rfl
      · unfold M_may
        simp only [thr0, Option.bind_some, M_in1, hy, Bool.false_eq_true, if_false, if_true]
    obtain ⟨A, w, co, k1, k2⟩ := h.1
    have k2' : MR A (si μ 62 10 (nI 0)) := k2.agM (ag_62 (by omega))
    rcases move_cases h x with ⟨b1, b2⟩ | ⟨d, r, hd, rfl, hr, b1, b2, b3⟩ | ⟨d, k, v, hd, rfl, hk, hv, b1, b2, b3, b4, b5, b6⟩
    · refine ⟨-1, μ, si μ 62 10 (nI 0), ?_, ?_, g0⟩
      · unfold N_may
        rw [b1]; rfl
      · unfold M_may
        simp only [thr0, Option.bind_some, M_in1, hy, if_true, b2, n2]
    · refine ⟨r, μ, si μ 62 10 (nI 0), ?_, ?_, g0⟩
      · have r0 : r ≠ 0 := fun e => by rw [e] at hr; exact absurd hr (by decide)
        have mr : N_moveRefusal (38 + 3 * d) μ = some r := by
          unfold N_moveRefusal
          rw [b2]
          simp only [Option.bind_some, if_neg r0, Bool.false_eq_true, if_false]
        unfold N_may
        rw [b1, onN_1, r1, hy]
        simp only [Bool.not_true, Option.bind_some, Bool.false_eq_true, if_false, mr, if_pos r0]
      · unfold M_may
        simp only [thr0, Option.bind_some, M_in1, hy, if_true, b3 _ (congrFun r85 d), decide_eq_true hr]
    · have mr := c_moveRefusal k1 w b2 b4 hk (by omega) (by omega) (by omega) (by omega)
      cases hB : thrB A k (v / 1000) (v / 100 % 10) (v / 10 % 10) (v % 10)
      · rw [hB] at mr
        obtain ⟨u, u1, u2, u3⟩ := m_openMove hd k2' w hk hv (by rw [si_ne (by omega)]; exact b5) (by rw [si_ne (by omega)]; exact b6)
        rw [hB] at u1
        refine ⟨-13, μ, u, ?_, ?_, Lc_same h (ag_rf _ _) (ag_tr (ag_62 (by omega)) u3)⟩
        · unfold N_may
          rw [b1, onN_1, r1, hy]
          simp only [Bool.not_true, Option.bind_some, Bool.false_eq_true, if_false, mr]
          rfl
        · unfold M_may
          simp only [thr0, Option.bind_some, M_in1, hy, if_true, b3 _ (congrFun r85 d), n1, Bool.false_eq_true, if_false, u1]
      · rw [hB] at mr
        have ht := thrB_t hB hk (by omega) (by omega)
        have side : ∀ (b : Bool) (m1 : MI), ag pC μ m1 → (if y = 0 then N_mayBeDone (38 + 3 * d + 1) μ else N_isWanted (38 + 3 * d + 1) μ) = some (b, m1) → (∀ u, MR A u → MM k (v / 1000) (v / 100 % 10) (v / 10 % 10) (v % 10) u → (∀ x, x < 3 → 0 ≤ (u.1 65 x).toInt) → ∃ u', (if y = 0 then M_canBeDone u else M_isWanted u) = some (b, u') ∧ ag pM u u') → ∃ r μ1 μ2, N_may (nI d) y μ = some (r, μ1) ∧ M_may (nI d) y μ1 = some (r, μ2) ∧ INV μ2 := by
          intro b m1 g1 e1 q
          have c : ∀ a j, 38 ≤ a → m1.1 a j = μ.1 a j := fun a j q1 => g1.1 a j (by unfold pC; omega)
          have k3 : MR A (si m1 62 10 (nI 0)) := (k2.agC g1).agM (ag_62 (by omega))
          obtain ⟨u, u1, u2, u3⟩ := m_openMove hd k3 w hk hv (by rw [si_ne (by omega), c _ _ (by omega)]; exact b5) (by rw [si_ne (by omega), c _ _ (by omega)]; exact b6)
          rw [hB] at u1
          have pu : ∀ x, x < 3 → 0 ≤ (u.1 65 x).toInt := fun x hx => by
            rw [u3.1 65 x (by unfold pM; omega), si_ne (by omega), c _ _ (by omega)]; exact h.2.1.1.1 x hx
          obtain ⟨u', q1, q2⟩ := q u (k3.agM u3) u2 pu
          refine ⟨if b = true then 1 else 0, m1, u', ?_, ?_, Lc_same h g1 (ag_tr (ag_tr (ag_62 (by omega)) u3) q2)⟩
          · unfold N_may
            rw [b1, onN_1, r1, hy]
            simp only [Bool.not_true, Option.bind_some, Bool.false_eq_true, if_false, mr, if_true, if_neg n0]
            have e2 : ((if y = 0 then ((N_mayBeDone (38 + 3 * d + 1) μ).bind fun (b27, m28) => some (b27, m28)) else ((N_isWanted (38 + 3 * d + 1) μ).bind fun (b33, m34) => some (b33, m34))) : Option (Bool × MI)) = some (b, m1) := by
              by_cases g : y = 0
              · rw [if_pos g] at e1 ⊢; rw [e1]; rfl
              · rw [if_neg g] at e1 ⊢; rw [e1]; rfl
            rw [e2]
            cases b <;> rfl
          · unfold M_may
            have s85 : (si m1 62 10 (nI 0)).1 85 d = μ.1 85 d := by rw [si_ne (by omega), c _ _ (by omega)]
            simp only [thr0, Option.bind_some, M_in1, hy, if_true, b3 _ s85, n1, Bool.false_eq_true, if_false, u1]
            have e2 : ((if y = 0 then ((M_canBeDone u).bind fun (b48, m49) => some (b48, m49)) else ((M_isWanted u).bind fun (b53, m54) => some (b53, m54))) : Option (Bool × MI)) = some (b, u') := by
              by_cases g : y = 0
              · rw [if_pos g] at q1 ⊢; rw [q1]; rfl
              · rw [if_neg g] at q1 ⊢; rw [q1]; rfl
            rw [e2]
            cases b <;> rfl
        by_cases g : y = 0
        · obtain ⟨m1, e1, e2, e3⟩ := c_mayBeDone k1 w co b4 (by omega) ht
          refine side _ m1 e2 (by rw [if_pos g]; exact e1) (fun u hu hmu pu => ?_)
          obtain ⟨u', f1, f2, f3⟩ := m_canBeDone hu w co hmu ht pu
          exact ⟨u', by rw [if_pos g]; exact f1, ag_mo f2 (fun a j q => Or.inr (Or.inl (by omega)))⟩
        · obtain ⟨m1, e1, e2⟩ := c_isWanted k1 w co b4 (by omega) ht
          refine side _ m1 e2 (by rw [if_neg g]; exact e1) (fun u hu hmu pu => ?_)
          obtain ⟨u', f1, f2⟩ := m_isWanted hu w hmu ht
          exact ⟨u', by rw [if_neg g]; exact f1, ag_mo f2 (fun a j q => Or.inr (Or.inl (by omega)))⟩
  obtain ⟨r, μ1, μ2, h1, h2, h3⟩ := both
  refine ⟨μ2, ?_, h3⟩
  unfold Lc_9
  simp only [h1, Option.bind_some, h2, if_true]
