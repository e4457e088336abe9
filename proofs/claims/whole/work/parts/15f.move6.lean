def chg (A : LV) (g : Nat → Nat) : Nat := sm (fun x => if A.ow x = g x then 0 else 1) A.n
theorem nx_n (A : LV) (k q f o g : Nat) : (nx A k q f o g).n = A.n ∧ (nx A k q f o g).p = A.p ∧ (nx A k q f o g).co = nCo A k q f g ∧ (nx A k q f o g).ow = nOw A k q f o g := by
  unfold nx nTo
  split <;> exact ⟨rfl, rfl, rfl, rfl⟩
theorem nx_co {A : LV} (w : WF A) (co : CO A) {k q f o g : Nat} (ht : thr_ A k q f o g) (h : canDo A k q f o g = true) : CO (nx A k q f o g) := by
  obtain ⟨e1, e2, e3, e4⟩ := nx_n A k q f o g
  unfold canDo at h
  rw [Bool.and_eq_true, Bool.and_eq_true, al_iff] at h
  intro x hx
  rw [e2] at hx
  rw [e3]
  exact ⟨of_decide_eq_true (h.2.2 x hx), (nCo_b w co ht.2.2.1 ht.2.2.2.1 x hx).2⟩
theorem c_move_end {A : LV} {m : MI} {k q f o g : Nat} (h1 : CR 1 A m) (w : WF A) (h8 : CR 8 (nx A k q f o g) m) (w8 : WF (nx A k q f o g)) : ∃ m', ((lp (N_move_s1 m) FUEL (0, 0)).bind fun changed24 => (Land_copyFrom 1 8 m).bind fun m46 => some (changed24, m46)) = some (nI (chg A (nOw A k q f o g)), m') ∧ CR 1 (nx A k q f o g) m' ∧ ag (fun a _ => 1 ≤ a ∧ a ≤ 7) m m' := by
  have hn := w.n6
  have hp := w.p3
  obtain ⟨e1, e2, e3, e4⟩ := nx_n A k q f o g
  have key : lp (N_move_s1 m) FUEL (0, 0) = some (nI (chg A (nOw A k q f o g))) := by
    refine lp_seq (fun j => (nI (sm (fun x => if A.ow x = nOw A k q f o g x then 0 else 1) j), nI j)) A.n (by omega) (fun j hj => ?_) ?_
    · have o1 := w.owl hj
      have o2 := w8.owl (f := j) (by rw [e1]; exact hj)
      rw [e2, e4] at o2
      have ov := c_ownerOf h8 w8 (f := j) (by rw [e1]; exact hj)
      rw [e4] at ov
      have c1 := cl_lt o1 hp
      have c2 := cl_lt o2 hp
      have ec : (nI (cl (nOw A k q f o g j)) = nI (cl (A.ow j))) = (A.ow j = nOw A k q f o g j) := by
        rw [nI_eq (by omega) (by omega), cl_inj o2 o1 hp]; exact propext eq_comm
      simp only [N_move_s1, h1.hn, if_pos (nI_lt hj (show A.n < 2 ^ 31 by omega)), ov, c_ownerOf h1 w hj, Option.bind_some, ec, li_0, li_1, nI_add, sm]
      by_cases z : A.ow j = nOw A k q f o g j
      · rw [if_pos z, if_pos z]
        simp only [Option.bind_some, nI_add]
      · rw [if_neg z, if_neg z]
        simp only [Option.bind_some, nI_add]
    · simp only [N_move_s1, h1.hn, if_neg (nI_nlt (Nat.le_refl A.n) (show A.n < 2 ^ 31 by omega))]
      rfl
  obtain ⟨m', c1, c2, c3⟩ := c_copyFrom (t := 1) (o := 8) h8 w8 (by omega)
  rw [key]
  simp only [Option.bind_some, c1]
  exact ⟨m', rfl, c2, c3⟩
theorem m_move_end {A : LV} {u m : MI} {k q f o g : Nat} (hu : MR A u) (w : WF A) (hmu : MM k q f o g u) (ht : thr_ A k q f o g) (hd : told A k q f o g = true) (gm : ag (fun a _ => a = 69 ∨ a = 75) u m) (ow : OW A (nOw A k q f o g) m) (pr : PRS A (nCo A k q f g) u m) : ∃ m', ((lp (M_move_s1) FUEL (0, 0, m)).bind fun (n31, m32) => (lp (M_move_s2) FUEL (0, m32)).bind fun m66 => (if (m66.1 62 26) = 5 then ((stA 36 m66 64 ((6 * (m66.1 62 23)) + (m66.1 62 24)) 2).bind fun m85 => (stA 36 m85 64 ((6 * (m85.1 62 24)) + (m85.1 62 23)) 2).bind fun m88 => some m88) else some m66 : Option MI).bind fun m82 => some (n31, m82)) = some (nI (chg A (nOw A k q f o g)), m') ∧ MR (nx A k q f o g) m' ∧ ag (fun a _ => (63 ≤ a ∧ a ≤ 69) ∨ a = 75) u m' ∧ ∀ x, x < 3 → m'.1 65 x = if x < A.p then iI (nCo A k q f g x) else u.1 65 x := by
  have hn := w.n6
  have hp := w.p3
  have hm : MR A m := hu.tg gm (fun a j e => Or.inl (Or.inr (Or.inl (by omega))))
  obtain ⟨o1, q1, q2, q3, q4⟩ := lp_inv (step := M_move_s1) (s := (0, 0, m)) (fun j t => t.1 = nI (sm (fun x => if A.ow x = nOw A k q f o g x then 0 else 1) j) ∧ t.2.1 = nI j ∧ (∀ x, x < j → t.2.2.1 68 x = nI (nOw A k q f o g x)) ∧ (∀ x, j ≤ x → t.2.2.1 68 x = m.1 68 x) ∧ ag (fun a _ => a = 68) m t.2.2) (fun t => t.1 = nI (chg A (nOw A k q f o g)) ∧ (∀ x, x < A.n → t.2.1 68 x = nI (nOw A k q f o g x)) ∧ ag (fun a _ => a = 68) m t.2) A.n (by omega) ⟨rfl, rfl, fun x hx => absurd hx (Nat.not_lt_zero _), fun _ _ => rfl, ag_rf _ _⟩ (by
      rintro j ⟨c, i, t⟩ hj ⟨t1, t2, t3, t4, t5⟩
      simp only at t1 t2 t3 t4 t5; subst t2; subst t1
      refine Or.inl ?_
      have n0 : t.1 62 0 = nI A.n := by rw [t5.1 _ _ (by omega)]; exact hm.hn
      have v68 : t.1 68 j = nI (A.ow j) := by rw [t4 j (Nat.le_refl _)]; exact hm.how hj
      have v69 : t.1 69 j = nI (nOw A k q f o g j) := by rw [t5.1 _ _ (by omega)]; exact ow.1 j hj
      have b1 := w.owl hj
      have b2 := ow.2 j hj
      have ec : (nI (A.ow j) = nI (nOw A k q f o g j)) = (A.ow j = nOw A k q f o g j) := by rw [nI_eq (by omega) (by omega)]
      refine ⟨(nI (sm (fun x => if A.ow x = nOw A k q f o g x then 0 else 1) (j + 1)), nI (j + 1), si t 68 j (nI (nOw A k q f o g j))), ?_, rfl, rfl, fun x hx => ?_, fun x hx => ?_, ag_st t5 rfl⟩
      · simp only [M_move_s1, n0, if_pos (nI_lt hj (show A.n < 2 ^ 31 by omega)), ldA_n (show j < 6 by omega) (show 6 ≤ 5000 by omega), v68, v69, Option.bind_some, ec, li_0, li_1, stA_n (show j < 6 by omega) (show 6 ≤ 5000 by omega), nI_add, sm]
        by_cases z : A.ow j = nOw A k q f o g j
        · rw [if_pos z, if_pos z]
          simp only [Option.bind_some, nI_add]
        · rw [if_neg z, if_neg z]
          simp only [Option.bind_some, nI_add]
      · rw [si_at]
        by_cases e : x = j
        · rw [if_pos e, e]
        · rw [if_neg e]; exact t3 x (by omega)
      · rw [si_at, if_neg (by omega)]; exact t4 x (by omega)) (by
      rintro ⟨c, i, t⟩ ⟨t1, t2, t3, t4, t5⟩
      simp only at t1 t2 t3 t4 t5; subst t2; subst t1
      have n0 : t.1 62 0 = nI A.n := by rw [t5.1 _ _ (by omega)]; exact hm.hn
      refine ⟨(nI (chg A (nOw A k q f o g)), t), ?_, rfl, t3, t5⟩
      simp only [M_move_s1, n0, if_neg (nI_nlt (Nat.le_refl A.n) (show A.n < 2 ^ 31 by omega))]
      rfl)
  obtain ⟨c, t⟩ := o1
  simp only at q2 q3 q4
  subst q2
  obtain ⟨s, s1, s2, s3⟩ := lp_m (step := M_move_s2) (fun j s => ag (fun a _ => a = 65) t s ∧ ∀ x, x < j → s.1 65 x = m.1 75 x) 3 (by omega) (μ := t) ⟨ag_rf _ _, fun x hx => absurd hx (Nat.not_lt_zero _)⟩ (fun j s hj ⟨z1, z2⟩ => by
    have e5 : s.1 75 j = m.1 75 j := by rw [z1.1 _ _ (by omega), q4.1 _ _ (by omega)]
    refine ⟨si s 65 j (m.1 75 j), ?_, ag_st z1 rfl, fun x hx => ?_⟩
    · simp only [M_move_s2, li_3, if_pos (nI_lt hj (show 3 < 2 ^ 31 by omega)), ldA_n hj (show 3 ≤ 5000 by omega), e5, Option.bind_some, stA_n hj (show 3 ≤ 5000 by omega), li_1, nI_add]
    · rw [si_at]
      by_cases e : x = j
      · rw [if_pos e, e]
      · rw [if_neg e, z2 x (by omega)]) (fun s _ => by
    simp only [M_move_s2, li_3, nI_ltI (show 3 < 2 ^ 31 by omega) (show 3 < 2 ^ 31 by omega), Nat.lt_irrefl, if_false])
  have fr : ∀ a j, a ≠ 65 → a ≠ 68 → s.1 a j = m.1 a j := fun a j z1 z2 => by rw [s2.1 _ _ z1, q4.1 _ _ z2]
  have p65 : ∀ x, x < 3 → s.1 65 x = if x < A.p then iI (nCo A k q f g x) else u.1 65 x := fun x hx => by rw [s3 x hx, pr x hx]
  have mr : MR ((A.so (nOw A k q f o g)).cs (nCo A k q f g)) s := by
    unfold MR
    rw [fr 62 0 (by omega) (by omega), fr 62 5 (by omega) (by omega), fr 62 3 (by omega) (by omega), fr 62 4 (by omega) (by omega)]
    refine ⟨hm.hn, hm.hp, hm.hC, hm.hK, fun x hx => ?_, fun x hx => ?_, fun a b ha hb => ?_, fun x hx => ?_, fun x hx => ?_, fun x y hx hy => ?_⟩
    · rw [fr _ _ (by omega) (by omega)]; exact hm.hac hx
    · rw [s2.1 _ _ (by omega)]; exact q3 x hx
    · rw [fr _ _ (by omega) (by omega)]; exact hm.hto ha hb
    · have hx : x < A.p := hx
      rw [p65 x (by omega), if_pos hx]; rfl
    · rw [fr _ _ (by omega) (by omega)]; exact hm.hki hx
    · rw [fr _ _ (by omega) (by omega)]; exact hm.hwo hx hy
  have gs : ag (fun a _ => (63 ≤ a ∧ a ≤ 69) ∨ a = 75) u s := ag_tr (ag_tr (ag_mo gm (fun a j e => by omega)) (ag_mo q4 (fun a j e => by omega))) (ag_mo s2 (fun a j e => by omega))
  have f62 : ∀ j, s.1 62 j = u.1 62 j := fun j => by rw [fr _ _ (by omega) (by omega), gm.1 _ _ (by omega)]
  have hms : MM k q f o g s := hmu.fr (fun j _ _ => f62 j)
  rw [q1]
  simp only [Option.bind_some]
  rw [s1]
  simp only [Option.bind_some]
  rw [hms.1]
  by_cases e5 : k = 5
  · subst e5
    have h8 := ht.2.2.2.2.2.1 (by omega)
    have h3 := ht.2.2.1
    rw [if_pos (show nI 5 = 5 from rfl)]
    have z1 : stA 36 s 64 ((6 * s.1 62 23) + s.1 62 24) 2 = some (si s 64 (6 * f + o) (nI 2)) := by rw [hms.2.2.1, hms.2.2.2.1, li_6, li_2, pk_mul, nI_add, stA_n (by omega) (by omega)]
    have z2 : stA 36 (si s 64 (6 * f + o) (nI 2)) 64 ((6 * (si s 64 (6 * f + o) (nI 2)).1 62 24) + (si s 64 (6 * f + o) (nI 2)).1 62 23) 2 = some (si (si s 64 (6 * f + o) (nI 2)) 64 (6 * o + f) (nI 2)) := by rw [si_ne (by omega), hms.2.2.1, hms.2.2.2.1, li_6, li_2, pk_mul, nI_add, stA_n (by omega) (by omega)]
    rw [z1]
    simp only [Option.bind_some]
    rw [z2]
    refine ⟨_, rfl, mr.stt (w.so (nOw_le w ht)) (v := 2) h3 h8, ag_st (ag_st gs (by omega)) (by omega), fun x hx => ?_⟩
    rw [si_ne (by omega), si_ne (by omega)]; exact p65 x hx
  · rw [if_neg (show ¬ nI k = 5 from by have := ht.1; rw [li_5, nI_eq (by omega) (by omega)]; exact e5)]
    refine ⟨s, rfl, ?_, gs, p65⟩
    have : nx A k q f o g = (A.so (nOw A k q f o g)).cs (nCo A k q f g) := by unfold nx nTo; rw [if_neg e5]
    rw [this]; exact mr
theorem L_10 {μ : MI} (h : INV μ) (x : Int32) : ∃ μ', Lc_10 x μ = some μ' ∧ INV μ' := by
  have g0 : INV (si μ 62 10 (nI 0)) := Lc_same h (ag_rf _ _) (ag_62 (by omega))
  have r85 : (si μ 62 10 (nI 0)).1 85 = μ.1 85 := si_ne (by omega)
  have n0 : ¬ ((0 : Int32) ≠ 0) := fun e => e rfl
  have n1 : ¬ ((0 : Int32) < 0) := by decide
  have both : ∃ r μ1 μ2, N_move x μ = some (r, μ1) ∧ M_move x μ1 = some (r, μ2) ∧ INV μ2 := by
    obtain ⟨A, w, co, k1, k2⟩ := h.1
    have k2' : MR A (si μ 62 10 (nI 0)) := k2.agM (ag_62 (by omega))
    rcases move_cases h x with ⟨b1, b2⟩ | ⟨d, r, hd, rfl, hr, b1, b2, b3⟩ | ⟨d, k, v, hd, rfl, hk, hv, b1, b2, b3, b4, b5, b6⟩
    · refine ⟨-1, μ, si μ 62 10 (nI 0), ?_, ?_, g0⟩
      · unfold N_move
        rw [b1]; rfl
      · unfold M_move
        simp only [thr0, Option.bind_some, b2, show ((-1 : Int32) < 0) = True from by decide, if_true]
    · refine ⟨r, μ, si μ 62 10 (nI 0), ?_, ?_, g0⟩
      · have r0 : r ≠ 0 := fun e => by rw [e] at hr; exact absurd hr (by decide)
        have mr : N_moveRefusal (38 + 3 * d) μ = some r := by
          unfold N_moveRefusal
          rw [b2]
          simp only [Option.bind_some, if_neg r0, Bool.false_eq_true, if_false]
        unfold N_move
        rw [b1, onN_1]
        simp only [Option.bind_some, mr, if_pos r0]
      · unfold M_move
        simp only [thr0, Option.bind_some, b3 _ (congrFun r85 d), if_pos hr]
    · have mr := c_moveRefusal k1 w b2 b4 hk (by omega) (by omega) (by omega) (by omega)
      cases hB : thrB A k (v / 1000) (v / 100 % 10) (v / 10 % 10) (v % 10)
      · rw [hB] at mr
        obtain ⟨u, u1, u2, u3⟩ := m_openMove hd k2' w hk hv (by rw [si_ne (by omega)]; exact b5) (by rw [si_ne (by omega)]; exact b6)
        rw [hB] at u1
        refine ⟨-13, μ, u, ?_, ?_, Lc_same h (ag_rf _ _) (ag_tr (ag_62 (by omega)) u3)⟩
        · unfold N_move
          rw [b1, onN_1]
          simp only [Option.bind_some, mr]
          rfl
        · unfold M_move
          simp only [thr0, Option.bind_some, b3 _ (congrFun r85 d), if_neg n1, u1, Bool.false_eq_true, if_false]
      · rw [hB] at mr
        have ht := thrB_t hB hk (by omega) (by omega)
        obtain ⟨m1, e1, g1, e3⟩ := c_mayBeDone k1 w co b4 (by omega) ht
        have c : ∀ a j, 38 ≤ a → m1.1 a j = μ.1 a j := fun a j q1 => g1.1 a j (by unfold pC; omega)
        cases hc : canDo A k (v / 1000) (v / 100 % 10) (v / 10 % 10) (v % 10)
        · have k3 : MR A (si m1 62 10 (nI 0)) := (k2.agC g1).agM (ag_62 (by omega))
          obtain ⟨u, u1, u2, u3⟩ := m_openMove hd k3 w hk hv (by rw [si_ne (by omega), c _ _ (by omega)]; exact b5) (by rw [si_ne (by omega), c _ _ (by omega)]; exact b6)
          have pu : ∀ x, x < 3 → 0 ≤ (u.1 65 x).toInt := fun x hx => by
            rw [u3.1 65 x (by unfold pM; omega), si_ne (by omega), c _ _ (by omega)]; exact h.2.1.1.1 x hx
          obtain ⟨u', f1, f2, f3⟩ := m_canBeDone (k3.agM u3) w co u2 ht pu
          rw [hB] at u1
          rw [hc] at e1 f1
          refine ⟨-3, m1, u', ?_, ?_, Lc_same h g1 (ag_tr (ag_tr (ag_62 (by omega)) u3) (ag_mo f2 (fun a j q => Or.inr (Or.inl (by omega)))))⟩
          · unfold N_move
            rw [b1, onN_1]
            simp only [Option.bind_some, mr, if_true, if_neg n0, e1, Bool.false_eq_true, if_false]
          · unfold M_move
            have s85 : (si m1 62 10 (nI 0)).1 85 d = μ.1 85 d := by rw [si_ne (by omega), c _ _ (by omega)]
            simp only [thr0, Option.bind_some, b3 _ s85, if_neg n1, u1, if_true, f1, Bool.false_eq_true, if_false]
        · have hd' : told A k (v / 1000) (v / 100 % 10) (v / 10 % 10) (v % 10) = true := by
            unfold canDo at hc
            rw [Bool.and_eq_true] at hc; exact hc.1
          have w8 := nx_wf w ht hd'
          have k11 : CR 1 A m1 := k1.tg g1 (fun a j z1 z2 z3 => by unfold pC at z3; omega)
          obtain ⟨m2, a1, a2, a3⟩ := c_move_end k11 w (e3 hc) w8
          have c2 : ∀ a j, 38 ≤ a → m2.1 a j = μ.1 a j := fun a j q1 => by rw [a3.1 a j (by omega)]; exact c a j q1
          have k3 : MR A (si m2 62 10 (nI 0)) := by
            have : MR A m2 := (k2.agC g1).tg a3 (fun a j e => Or.inr (by omega))
            exact this.agM (ag_62 (by omega))
          obtain ⟨u, u1, u2, u3⟩ := m_openMove hd k3 w hk hv (by rw [si_ne (by omega), c2 _ _ (by omega)]; exact b5) (by rw [si_ne (by omega), c2 _ _ (by omega)]; exact b6)
          have u65 : ∀ x, u.1 65 x = μ.1 65 x := fun x => by rw [u3.1 65 x (by unfold pM; omega), si_ne (by omega), c2 _ _ (by omega)]
          have pu : ∀ x, x < 3 → 0 ≤ (u.1 65 x).toInt := fun x hx => by rw [u65]; exact h.2.1.1.1 x hx
          have hu := k3.agM u3
          obtain ⟨u', f1, f2, f3⟩ := m_canBeDone hu w co u2 ht pu
          rw [hB] at u1
          rw [hc] at e1 f1
          obtain ⟨f4, f5⟩ := f3 hc
          obtain ⟨z, z1, z2, z3, z4⟩ := m_move_end hu w u2 ht hd' f2 f4 f5
          refine ⟨nI (chg A (nOw A k (v / 1000) (v / 100 % 10) (v / 10 % 10) (v % 10))), m2, z, ?_, ?_, ?_⟩
          · unfold N_move
            rw [b1, onN_1]
            simp only [Option.bind_some, mr, if_true, if_neg n0, e1]
            exact a1
          · unfold M_move
            have s85 : (si m2 62 10 (nI 0)).1 85 d = μ.1 85 d := by rw [si_ne (by omega), c2 _ _ (by omega)]
            simp only [thr0, Option.bind_some, b3 _ s85, if_neg n1, u1, if_true, f1]
            exact z1
          · have gall : ag pL μ z := ag_tr (ag_tr (ag_tr (ag_mo g1 (fun a j q => Or.inl q)) (ag_mo a3 (fun a j q => Or.inr (Or.inr (Or.inl q))))) (ag_mo (ag_tr (ag_62 (by omega)) u3) (fun a j q => Or.inr (Or.inl q)))) (ag_mo z3 (fun a j q => by unfold pL pC pM; omega))
            refine h.land gall w8 (nx_co w co ht hc) ?_ z2 (fun x hx => ?_)
            · exact ((a2.tg (ag_62 (μ := m2) (j := 10) (x := nI 0) (by omega)) (fun a j q1 q2 q3 => by unfold pM at q3; omega)).tg u3 (fun a j q1 q2 q3 => by unfold pM at q3; omega)).tg z3 (fun a j q1 q2 q3 => by omega)
            · rw [z4 x hx]
              by_cases g : x < A.p
              · have n9 := nx_co w co ht hc x (by rw [(nx_n A k (v / 1000) (v / 100 % 10) (v / 10 % 10) (v % 10)).2.1]; exact g)
                rw [(nx_n A k (v / 1000) (v / 100 % 10) (v / 10 % 10) (v % 10)).2.2.1] at n9
                rw [if_pos g, iI_toInt (by omega) (by omega)]; exact n9.1
              · rw [if_neg g]; exact pu x hx
  obtain ⟨r, μ1, μ2, h1, h2, h3⟩ := both
  refine ⟨μ2, ?_, h3⟩
  unfold Lc_10
  simp only [h1, Option.bind_some, h2, if_true]
