theorem flood_eq {A : LV} (w : WF A) {a b : Nat} (w5 : WF (A.stt a b 1)) : ∃ j, am (fOk A a b) (wto A A.ow) (2 ^ A.n) = some j ∧ am (fun s => fOk A a b s && fOw A s) (wto A A.ow) (2 ^ A.n) = some j := by
  have tp : 0 < 2 ^ A.n := Nat.two_pow_pos _
  have full : fOk A a b (2 ^ A.n - 1) = true := by
    unfold fOk
    rw [lw_iff w5]
    intro x y hx hy
    have hx : x < A.n := hx
    unfold bad msk
    rw [all_tb hx, if_pos rfl, one_0, Bool.and_false]
  rcases hm : am (fOk A a b) (wto A A.ow) (2 ^ A.n) with _ | j
  · rw [am_none hm (2 ^ A.n - 1) (by omega)] at full; cases full
  · obtain ⟨m1, m2, m3, m4⟩ := am_some hm
    refine ⟨j, rfl, ?_⟩
    have own : fOw A j = true := by
      unfold fOw
      rw [al_iff]
      intro f hf
      cases hb : j.testBit f
      · rfl
      · by_cases e0 : A.ow f = 0
        · exfalso
          have tb : ∀ i, i < A.n → (j &&& bs (fun i => decide (i ≠ f)) A.n).testBit i = (if i = f then false else j.testBit i) := by
            intro i hi
            rw [Nat.testBit_and, bs_tb]
            by_cases e : i = f
            · subst e; simp
            · rw [if_neg e]; simp [e, hi]
          have lt : j &&& bs (fun i => decide (i ≠ f)) A.n < j := by
            have h1 : j &&& bs (fun i => decide (i ≠ f)) A.n ≤ j := Nat.and_le_left
            have h2 : j &&& bs (fun i => decide (i ≠ f)) A.n ≠ j := fun e => by
              have := tb f hf
              rw [e, hb, if_pos rfl] at this; cases this
            omega
          have okj : fOk A a b (j &&& bs (fun i => decide (i ≠ f)) A.n) = true := by
            rw [← m2]
            unfold fOk
            refine lw_cg w5 fun i hi => ?_
            unfold msk
            rw [tb i hi]
            by_cases e : i = f
            · subst e; simp [hb, e0]
            · rw [if_neg e]
          have ev : wto A A.ow (j &&& bs (fun i => decide (i ≠ f)) A.n) = wto A A.ow j := by
            unfold wto
            refine sm_cg fun i hi => ?_
            rw [tb i hi]
            by_cases e : i = f
            · subst e; simp [hb, e0, wt_0]
            · rw [if_neg e]
          have := m4 _ lt okj
          omega
        · simp [e0]
    refine am_uniq m1 (by rw [m2, own]; rfl) (fun i hi hk => m3 i hi ?_) (fun i hi hk => m4 i hi ?_)
    · revert hk; cases fOk A a b i <;> simp
    · revert hk; cases fOk A a b i <;> simp
theorem m_flood2 {A : LV} (w : WF A) {a b : Nat} (w5 : WF (A.stt a b 1)) {m : MI} (hm : MR (A.stt a b 1) m) {s : Nat} (hs : s < 64) : ∃ m1 m2, M_takeNow m = some m1 ∧ lp (M_flood_s2 (nI s)) FUEL (true, 0, 0, m1) = some (fOw A s, nI (wto A A.ow s), m2) ∧ MR (A.stt a b 1) m2 ∧ M_isFine m2 = some (fOk A a b s) ∧ ag pM m m2 := by
  have hn := w.n6
  have hp := w.p3
  obtain ⟨m1, c1, c2, c3⟩ := m_takeNow hm w5
  obtain ⟨o, q1, q2, q3, q4, q5⟩ := lp_inv (step := M_flood_s2 (nI s)) (s := (true, 0, 0, m1)) (fun k t => t.1 = al (fun f => !(s.testBit f) || decide (A.ow f ≠ 0)) k ∧ t.2.1 = nI (sm (fun f => if s.testBit f = true then A.wt (A.ow f) f else 0) k) ∧ t.2.2.1 = nI k ∧ OW (A.stt a b 1) (fun f => if f < k then msk s A.ow f else A.ow f) t.2.2.2 ∧ ag (fun a _ => a = 69) m t.2.2.2) (fun o => o.1 = fOw A s ∧ o.2.1 = nI (wto A A.ow s) ∧ OW (A.stt a b 1) (fun f => if f < A.n then msk s A.ow f else A.ow f) o.2.2 ∧ ag (fun a _ => a = 69) m o.2.2) A.n (by omega) ⟨rfl, rfl, rfl, c2.cg (fun f hf => by rw [if_neg (Nat.not_lt_zero _)]; rfl), c3⟩ (by
      rintro k ⟨ow, lo, i, n⟩ hk ⟨r1, r2, r3, r4, r5⟩
      simp only at r1 r2 r3 r4 r5; subst r3; subst r2; subst r1
      have hn' : MR (A.stt a b 1) n := hm.tg r5 (fun a j e => Or.inl (Or.inr (Or.inl (by omega))))
      have nr : n.1 62 0 = nI A.n := hn'.hn
      have o1 := w.owl hk
      have ov : n.1 68 k = nI (A.ow k) := hn'.how hk
      refine Or.inl ?_
      simp only [M_flood_s2, nr, if_pos (nI_lt hk (show A.n < 2 ^ 31 by omega)), li_1, li_0, li_6, tbv (show s < 2 ^ 31 by omega) (show k < 31 by omega)]
      cases hb : s.testBit k
      · simp only [Bool.false_eq_true, if_false, Option.bind_some, nI_add]
        refine ⟨_, rfl, ?_, ?_, rfl, r4.cg fun f hf => ?_, r5⟩
        · show _ = (al _ k && (!(s.testBit k) || decide (A.ow k ≠ 0)))
          rw [hb]; simp
        · show _ = nI (sm _ k + (if s.testBit k = true then A.wt (A.ow k) k else 0))
          rw [hb]; simp
        · by_cases e : f = k
          · subst e
            rw [if_neg (by omega), if_pos (by omega)]
            unfold msk; rw [hb]; simp
          · by_cases e2 : f < k
            · rw [if_pos e2, if_pos (by omega)]
            · rw [if_neg e2, if_neg (by omega)]
      · have lv : ((if nI 0 < nI (A.ow k) then (ldA 18 n 67 (nI 6 * (nI (A.ow k) - nI 1) + nI k)).bind fun x80 => some x80 else some (nI 0)) : Option Int32) = some (nI (A.wt (A.ow k) k)) := by
          by_cases e : A.ow k = 0
          · rw [e, if_neg (nI_nlt (Nat.le_refl 0) (by omega))]; rfl
          · obtain ⟨q, eq⟩ : ∃ q, A.ow k = q + 1 := ⟨A.ow k - 1, by omega⟩
            have := hn'.hwo (q := q) (f := k) (show q < A.p by omega) hk
            rw [eq, if_pos (nI_lt (by omega) (by omega)), pk_sub (by omega), Nat.add_sub_cancel, pk_mul, nI_add, ldA_n (by omega) (by omega), this]
            rfl
        have cv : (if al (fun f => !(s.testBit f) || decide (A.ow f ≠ 0)) k = true then some (decide (nI 0 < nI (A.ow k))) else some false) = some (al (fun f => !(s.testBit f) || decide (A.ow f ≠ 0)) (k + 1)) := by
          have e1 : decide (nI 0 < nI (A.ow k)) = decide (A.ow k ≠ 0) := by
            apply decide_eq_decide.mpr
            rw [nI_ltI (by omega) (by omega)]; omega
          rw [e1]
          show _ = some (al _ k && (!(s.testBit k) || decide (A.ow k ≠ 0)))
          rw [hb]
          cases al (fun f => !(s.testBit f) || decide (A.ow f ≠ 0)) k <;> simp
        simp only [if_true, ldA_n (show k < 6 by omega) (show 6 ≤ 5000 by omega), ov, Option.bind_some, cv, lv, nI_add, stA_n (show k < 6 by omega) (show 6 ≤ 5000 by omega)]
        have r6 := r4.sx w5 (f := k) (o := 0) hk (Nat.zero_le _)
        refine ⟨_, rfl, rfl, ?_, rfl, r6.cg fun f hf => ?_, ag_st r5 rfl⟩
        · show _ = nI (sm _ k + (if s.testBit k = true then A.wt (A.ow k) k else 0))
          rw [hb, if_pos rfl]
        · by_cases e : f = k
          · subst e
            rw [if_pos rfl, if_pos (by omega)]
            unfold msk; rw [hb, if_pos rfl]
          · rw [if_neg e]
            by_cases e2 : f < k
            · rw [if_pos e2, if_pos (by omega)]
            · rw [if_neg e2, if_neg (by omega)]) (by
      rintro ⟨ow, lo, i, n⟩ ⟨r1, r2, r3, r4, r5⟩
      simp only at r1 r2 r3 r4 r5; subst r3; subst r2; subst r1
      have hn' : MR (A.stt a b 1) n := hm.tg r5 (fun a j e => Or.inl (Or.inr (Or.inl (by omega))))
      have nr : n.1 62 0 = nI A.n := hn'.hn
      refine ⟨(fOw A s, nI (wto A A.ow s), n), ?_, rfl, rfl, r4, r5⟩
      simp only [M_flood_s2, nr, if_neg (nI_nlt (Nat.le_refl A.n) (show A.n < 2 ^ 31 by omega))]
      rfl)
  obtain ⟨o1, o2, m2⟩ := o
  simp only at q2 q3 q4 q5
  subst q2; subst q3
  have h2 : MR (A.stt a b 1) m2 := hm.tg q5 (fun a j e => Or.inl (Or.inr (Or.inl (by omega))))
  refine ⟨m1, m2, c1, q1, h2, ?_, ag_69 q5⟩
  rw [m_isFine h2 w5 (q4.cg (fun f hf => if_pos hf))]
  rfl
theorem M_flood_v {A : LV} {μ : MI} (h : MR A μ) (w : WF A) (x y : Int32) : ∃ m, M_flood x y μ = some (sFlood A x y, m) ∧ MR A m ∧ ag pR μ m := by
  have hn := w.n6
  have g00 : ag pM μ (si μ 62 10 (nI 0)) := ag_62 (by omega)
  have h' : MR A (si μ 62 10 (nI 0)) := h.agM g00
  unfold M_flood sFlood
  rw [thr0]
  simp only [Option.bind_some, m_isField h' w]
  by_cases g : (inR x A.n && inR y A.n && decide (x ≠ y)) = true
  · rw [if_pos g]
    have g1 : inR x A.n = true := by revert g; cases inR x A.n <;> simp
    have g2 : inR y A.n = true := by revert g; rw [g1]; cases inR y A.n <;> simp
    have g3 : x ≠ y := by revert g; rw [g1, g2]; simp
    rw [g1, g2]
    obtain ⟨a, ha, rfl⟩ := inR_t g1
    obtain ⟨b, hb, rfl⟩ := inR_t g2
    have hab : a ≠ b := fun e => g3 (by rw [e])
    have w5 := w.stt (h := 1) ha hb hab (by omega)
    have r5 := h'.stt w (v := 1) ha hb
    have g5 : ag pR μ (si (si (si μ 62 10 (nI 0)) 64 (6 * a + b) (nI 1)) 64 (6 * b + a) (nI 1)) := ag_st (ag_st (ag_mo g00 (fun _ _ q => Or.inl q)) (Or.inr (by omega))) (Or.inr (by omega))
    have t6 := two_le hn
    simp only [if_true, Option.bind_some, decide_eq_false g3, Bool.false_eq_true, if_false, li_6, li_1, pk_mul, nI_add, ldA_n (show 6 * a + b < 36 by omega) (show 36 ≤ 5000 by omega), h'.hto ha hb, stA_n (show 6 * a + b < 36 by omega) (show 36 ≤ 5000 by omega), stA_n (show 6 * b + a < 36 by omega) (show 36 ≤ 5000 by omega)]
    generalize si (si (si μ 62 10 (nI 0)) 64 (6 * a + b) (nI 1)) 64 (6 * b + a) (nI 1) = m0 at r5 g5 ⊢
    have nr : m0.1 62 0 = nI A.n := r5.hn
    generalize hok : (fun s => fOk A a b s && fOw A s) = ok
    have oks : ∀ s, ok s = (fOk A a b s && fOw A s) := fun s => by rw [← hok]
    obtain ⟨o, q1, q2, q3, q4⟩ := lp_inv (step := M_flood_s1) (s := (-nI 1, 0, 0, m0)) (fun k t => t.1 = (am ok (wto A A.ow) k).elim (-nI 1) (fun j => nI j) ∧ t.2.1 = (am ok (wto A A.ow) k).elim (nI 0) (fun j => nI (wto A A.ow j)) ∧ t.2.2.1 = nI k ∧ MR (A.stt a b 1) t.2.2.2 ∧ ag pR μ t.2.2.2) (fun o => o.1 = (am ok (wto A A.ow) (2 ^ A.n)).elim (-nI 1) (fun j => nI j) ∧ MR (A.stt a b 1) o.2.2 ∧ ag pR μ o.2.2) (2 ^ A.n) (by omega) ⟨rfl, rfl, rfl, r5, g5⟩ (by
      rintro k ⟨be, le, i, n⟩ hk ⟨t1, t2, t3, t4, t5⟩
      simp only at t1 t2 t3 t4 t5; subst t3; subst t2; subst t1
      refine Or.inl ?_
      obtain ⟨n1, n2, e1, e2, e3, e4, e5⟩ := m_flood2 w w5 t4 (s := k) (by omega)
      have nr : n.1 62 0 = nI A.n := t4.hn
      rw [show (true, (0 : Int32), (0 : Int32), n1) = (true, nI 0, nI 0, n1) from rfl] at e2
      have v1 := wto_le w k
      have cv : ((if fOw A k = true then (some (fOk A a b k) : Option Bool).bind fun b111 => if b111 = true then (if (am ok (wto A A.ow) k).elim (-nI 1) (fun j => nI j) < nI 0 then some true else some (decide (nI (wto A A.ow k) < (am ok (wto A A.ow) k).elim (nI 0) (fun j => nI (wto A A.ow j))))) else some false else some false) : Option Bool) = some (ok k && (am ok (wto A A.ow) k).elim true (fun j => decide (wto A A.ow k < wto A A.ow j))) := by
        rw [oks]
        cases fOw A k
        · simp
        · cases fOk A a b k
          · simp
          · simp only [if_true, Option.bind_some, Bool.and_self, Bool.true_and]
            rcases hm : am ok (wto A A.ow) k with _ | j
            · rfl
            · have j1 := (am_some hm).1
              have v2 := wto_le w j
              show (if nI j < nI 0 then some true else some (decide (nI (wto A A.ow k) < nI (wto A A.ow j)))) = some (decide (wto A A.ow k < wto A A.ow j))
              rw [if_neg (nI_nlt (Nat.zero_le j) (by omega))]
              congr 1
              apply decide_eq_decide.mpr
              rw [nI_ltI (by omega) (by omega)]
      simp only [M_flood_s1, nr, li_1, li_0, sh1 (show A.n < 29 by omega), if_pos (nI_lt hk (show 2 ^ A.n < 2 ^ 31 by omega)), e1, Option.bind_some, e2, e4]
      simp only [Option.bind_some] at cv
      rw [cv]
      have ea : am ok (wto A A.ow) (k + 1) = if (ok k && (am ok (wto A A.ow) k).elim true (fun j => decide (wto A A.ow k < wto A A.ow j))) = true then some k else am ok (wto A A.ow) k := rfl
      by_cases z : (ok k && (am ok (wto A A.ow) k).elim true (fun j => decide (wto A A.ow k < wto A A.ow j))) = true
      · rw [if_pos z] at ea
        rw [ea, z]
        simp only [Option.bind_some, if_true, nI_add]
        exact ⟨_, rfl, rfl, rfl, rfl, e3, ag_tr t5 (ag_mo e5 (fun _ _ q => Or.inl q))⟩
      · rw [if_neg z] at ea
        rw [ea, Bool.eq_false_iff.mpr z]
        simp only [Option.bind_some, Bool.false_eq_true, if_false, nI_add]
        exact ⟨_, rfl, rfl, rfl, rfl, e3, ag_tr t5 (ag_mo e5 (fun _ _ q => Or.inl q))⟩) (by
      rintro ⟨be, le, i, n⟩ ⟨t1, t2, t3, t4, t5⟩
      simp only at t1 t2 t3 t4 t5; subst t3; subst t2; subst t1
      have nr : n.1 62 0 = nI A.n := t4.hn
      refine ⟨((am ok (wto A A.ow) (2 ^ A.n)).elim (-nI 1) (fun j => nI j), (am ok (wto A A.ow) (2 ^ A.n)).elim (nI 0) (fun j => nI (wto A A.ow j)), n), ?_, rfl, t4, t5⟩
      simp only [M_flood_s1, nr, li_1, sh1 (show A.n < 29 by omega), if_neg (nI_nlt (Nat.le_refl (2 ^ A.n)) (show 2 ^ A.n < 2 ^ 31 by omega))])
    obtain ⟨be, le, n⟩ := o
    simp only at q2 q3 q4
    subst q2
    obtain ⟨j, j1, j2⟩ := flood_eq w w5
    rw [hok] at j2
    rw [q1]
    have z6 := q3.back w ha hb
    simp only [Option.bind_some, stA_n (show 6 * a + b < 36 by omega) (show 36 ≤ 5000 by omega), stA_n (show 6 * b + a < 36 by omega) (show 36 ≤ 5000 by omega)]
    rw [nI_clamp (show a < 2 ^ 31 by omega), nI_clamp (show b < 2 ^ 31 by omega), j1, j2]
    exact ⟨_, rfl, z6, ag_st (ag_st q4 (Or.inr (by omega))) (Or.inr (by omega))⟩
  · rw [if_neg g]
    have cv : ((if inR x A.n = true then (some (inR y A.n)).bind fun b135 => if b135 = true then some (decide (x = y)) else some true else some true) : Option Bool) = some true := by
      revert g
      cases inR x A.n
      · simp
      · cases inR y A.n
        · simp
        · by_cases e : x = y <;> simp [e]
    simp only [Option.bind_some] at cv
    rw [cv]
    exact ⟨_, rfl, h', ag_mo g00 (fun _ _ q => Or.inl q)⟩
theorem L_17 {μ : MI} (h : INV μ) (x y : Int32) : ∃ μ', Lc_17 x y μ = some μ' ∧ INV μ' := by
  obtain ⟨A, w, co, k1, k2⟩ := h.1
  obtain ⟨m1, e1, g1⟩ := N_flood_v k1 w x y
  obtain ⟨m, e, c2, g⟩ := M_flood_v (k2.agC g1) w x y
  refine ⟨m, ?_, h.both (ag_mo g1 (fun _ _ q => Or.inl q)) g w co (k1.tg g1 (fun a j h1 h2 q => by unfold pC at q; omega)) c2⟩
  unfold Lc_17
  simp only [e1, Option.bind_some, e, if_true]
