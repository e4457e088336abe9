/-! ===== chain: the reference's search ===== -/
def nu (A : LV) (g : Nat → Nat) : Nat := enc (A.p + 1) g A.n
theorem nu_lt {A : LV} (w : WF A) {g : Nat → Nat} (h : ∀ f, f < A.n → g f ≤ A.p) : nu A g < 4096 := by
  have h1 : nu A g < (A.p + 1) ^ A.n := enc_lt fun f hf => by have := h f hf; omega
  have h2 : (A.p + 1) ^ A.n ≤ 4 ^ A.n := Nat.pow_le_pow_left (by have := w.p3; omega) _
  have h3 : 4 ^ A.n ≤ 4 ^ 6 := Nat.pow_le_pow_right (by decide) w.n6
  have h4 : (4 : Nat) ^ 6 = 4096 := by decide
  omega
theorem nu_eq {A : LV} {s t : Nat → Nat} (hs : OKs A s) (ht : OKs A t) (q : nu A s = nu A t) : s = t := by
  funext f
  by_cases hf : f < A.n
  · have h1 := enc_pfx (P := A.p + 1) (d := s) (n := A.n) (fun g hg => by have := hs.1 g hg; omega) f hf
    have h2 := enc_pfx (P := A.p + 1) (d := t) (n := A.n) (fun g hg => by have := ht.1 g hg; omega) f hf
    have q : enc (A.p + 1) s A.n = enc (A.p + 1) t A.n := q
    rw [← h1, q, h2]
  · rw [hs.2 f (by omega), ht.2 f (by omega)]
theorem enc_cg {P : Nat} {g h : Nat → Nat} : ∀ {n : Nat}, (∀ f, f < n → g f = h f) → enc P g n = enc P h n
  | 0, _ => rfl
  | n + 1, q => by
    show enc P g n * P + g n = enc P h n * P + h n
    rw [enc_cg (fun f hf => q f (by omega)), q n (by omega)]
theorem m_numberOf {A : LV} {μ : MI} {g : Nat → Nat} (h : MR A μ) (w : WF A) (ow : OW A g μ) : M_numberOf μ = some (nI (nu A g)) := by
  have hn := w.n6
  unfold M_numberOf
  have key : lp (M_numberOf_s1 μ) FUEL (0, 0) = some (nI (nu A g)) := by
    refine lp_seq (fun k => (nI (enc (A.p + 1) g k), nI k)) A.n (by omega) (fun k hk => ?_) ?_
    · unfold M_numberOf_s1
      simp only []
      rw [h.hn, if_pos (nI_lt hk (by omega)), ldA_n (show k < 6 by omega) (by omega), ow.1 k hk, h.hp]
      simp only [Option.bind_some, li_1, nI_add, pk_mul]
      rfl
    · simp only [M_numberOf_s1, h.hn, if_neg (nI_nlt (Nat.le_refl _) (show A.n < 2 ^ 31 by omega))]
      rfl
  rw [key]; rfl
def RI (A : LV) (q : Nat → Nat → Nat) (d : Nat → Nat) (m : Nat) (μ : MI) : Prop := MR A μ ∧ (∀ i, i < m → OKs A (q i) ∧ μ.1 78 i = nI (nu A (q i)) ∧ μ.1 77 (nu A (q i)) = nI (d i)) ∧ ∀ c, c < 4096 → (∀ i, i < m → nu A (q i) ≠ c) → μ.1 77 c = -4
def RT (A : LV) (s0 : Nat → Nat) (k m : Nat) (q : Nat → Nat → Nat) (d : Nat → Nat) (μ : MI) : Prop := BI (nbG A) s0 k m q d ∧ RI A q d m μ
def pQ2 (a _j : Nat) : Prop := a = 69 ∨ (76 ≤ a ∧ a ≤ 78)
theorem RI.fr {A : LV} {q : Nat → Nat → Nat} {d : Nat → Nat} {m : Nat} {μ s : MI} (h : RI A q d m μ) (g : ag (fun a _ => a = 69 ∨ a = 76) μ s) : RI A q d m s := by
  obtain ⟨h1, h2, h3⟩ := h
  refine ⟨h1.tg g (fun a j z => Or.inl (Or.inr (Or.inl (by omega)))), fun i hi => ?_, fun c hc z => ?_⟩
  · rw [g.1 78 i (by omega), g.1 77 _ (by omega)]; exact h2 i hi
  · rw [g.1 77 c (by omega)]; exact h3 c hc z
theorem RT.ne {A : LV} {s0 : Nat → Nat} {k m : Nat} {q : Nat → Nat → Nat} {d : Nat → Nat} {μ : MI} (w : WF A) (h : RT A s0 k m q d μ) {t : Nat → Nat} (ht : OKs A t) (z : ∀ i, i < m → q i ≠ t) : m < 4096 := by
  obtain ⟨b, _, c, _⟩ := h
  have inj := b.2.2.2.2.2.1
  have := pig 4096 (m + 1) (fun i => nu A (if i = m then t else q i)) (fun i hi => by
    show nu A (if i = m then t else q i) < 4096
    by_cases y : i = m
    · rw [if_pos y]; exact nu_lt w ht.1
    · rw [if_neg y]; exact nu_lt w (c i (by omega)).1.1) (fun i j hi hj y => by
    have y : nu A (if i = m then t else q i) = nu A (if j = m then t else q j) := y
    by_cases y1 : i = m
    · by_cases y2 : j = m
      · omega
      · rw [if_pos y1, if_neg y2] at y
        exact absurd (nu_eq (c j (by omega)).1 ht y.symm) (z j (by omega))
    · by_cases y2 : j = m
      · rw [if_neg y1, if_pos y2] at y
        exact absurd (nu_eq (c i (by omega)).1 ht y) (z i (by omega))
      · rw [if_neg y1, if_neg y2] at y
        exact inj i j (by omega) (by omega) (nu_eq (c i (by omega)).1 (c j (by omega)).1 y))
  omega
theorem RT.bd {A : LV} {s0 : Nat → Nat} {k m : Nat} {q : Nat → Nat → Nat} {d : Nat → Nat} {μ : MI} (w : WF A) (h : RT A s0 k m q d μ) : m ≤ 4096 := by
  obtain ⟨b, _, c, _⟩ := h
  exact pig 4096 m (fun i => nu A (q i)) (fun i hi => nu_lt w (c i hi).1.1) (fun i j hi hj y => b.2.2.2.2.2.1 i j hi hj (nu_eq (c i hi).1 (c j hj).1 y))
theorem nI_neg4 : ((-4 : Int32) < 0) = True := eq_true (by decide)
theorem m_try {A : LV} {s0 : Nat → Nat} {k m f o : Nat} {q : Nat → Nat → Nat} {d : Nat → Nat} {μ : MI} (w : WF A) (h : RT A s0 k m q d μ) (hk : k < m) (hf : f < A.n) (ho : o ≤ A.p) : ∃ μ' n r c, M_chain_s6 (nI k) (nI f) (nI m, nI o, μ) = some (.inl (nI n, nI (o + 1), μ')) ∧ ag pQ2 μ μ' ∧ RT A s0 k n r c μ' ∧ EX k m q d n r c ∧ (lw A (up (q k) f o) = true → ∃ i, i < n ∧ r i = up (q k) f o) := by
  have hn := w.n6
  have hp := w.p3
  have hb := h
  have m4 := h.bd w
  obtain ⟨b, g0, g1, g2⟩ := h
  obtain ⟨okk, k78, k77⟩ := g1 k hk
  have okt := okk.up hf ho
  have nk := nu_lt w okk.1
  have nt := nu_lt w okt.1
  obtain ⟨u, u1, u2, u3⟩ := m_spread g0 w (P := A.p + 1) (m := nu A (q k)) (by omega) (by omega) (by omega)
  have dg : ∀ g, g < A.n → u.1 76 g = nI (q k g) := fun g hg => by
    rw [u2 g hg]
    congr 1
    exact enc_pfx (P := A.p + 1) (d := q k) (n := A.n) (fun g hg => by have := okk.1 g hg; omega) g hg
  have hu : MR A u := g0.tg u3 (fun a j z => Or.inl (Or.inr (Or.inl (by omega))))
  obtain ⟨v, v1, v2, v3⟩ := lp_m (step := M_chain_s7 (nI f) (nI o)) (fun k' s => ag (fun a _ => a = 69) u s ∧ ∀ x, x < k' → s.1 69 x = nI (up (q k) f o x)) A.n (by omega) (μ := u) ⟨ag_rf _ _, fun x hx => absurd hx (Nat.not_lt_zero _)⟩ (fun j s hj ⟨z1, z2⟩ => by
    have hs : MR A s := hu.tg z1 (fun a j z => Or.inl (Or.inr (Or.inl (by omega))))
    refine ⟨si s 69 j (nI (up (q k) f o j)), ?_, ag_st z1 rfl, fun x hx => ?_⟩
    · have d7 : ldA 6 s 76 (nI j) = some (nI (q k j)) := by rw [ldA_n (by omega) (by omega), z1.1 76 j (by omega), dg j hj]
      unfold M_chain_s7
      simp only []
      rw [hs.hn, if_pos (nI_lt hj (by omega)), d7]
      have e6 : (if nI j = nI f then (some (nI o) : Option Int32) else (some (nI (q k j)) : Option Int32).bind fun x171 => some x171) = some (nI (up (q k) f o j)) := by
        by_cases e : j = f
        · rw [if_pos (by rw [e]), e, up_at]
        · rw [if_neg (fun z => e ((nI_eq (by omega) (by omega)).mp z)), up_ne e]; rfl
      rw [e6]
      simp only [Option.bind_some]
      rw [stA_n (show j < 6 by omega) (by omega)]
      simp only [Option.bind_some, li_1, nI_add]
    · rw [si_at]
      by_cases e : x = j
      · rw [if_pos e, e]
      · rw [if_neg e, z2 x (by omega)]) (fun s ⟨z1, z2⟩ => by
    have hs : MR A s := hu.tg z1 (fun a j z => Or.inl (Or.inr (Or.inl (by omega))))
    simp only [M_chain_s7, hs.hn, if_neg (nI_nlt (Nat.le_refl _) (show A.n < 2 ^ 31 by omega))])
  have gv : ag (fun a _ => a = 69 ∨ a = 76) μ v := ag_tr (ag_mo u3 (fun a j z => by omega)) (ag_mo v2 (fun a j z => by omega))
  have rv : RI A q d m v := RI.fr ⟨g0, g1, g2⟩ gv
  have ov : OW A (up (q k) f o) v := ⟨fun x hx => v3 x hx, okt.1⟩
  have gq : ag pQ2 μ v := ag_mo gv (fun a j z => by unfold pQ2; omega)
  have o1 : nI o + 1 = nI (o + 1) := by rw [li_1, nI_add]
  have p1 : nI A.p + 1 = nI (A.p + 1) := by rw [li_1, nI_add]
  unfold M_chain_s6
  simp only []
  rw [g0.hp, if_pos (nI_le ho (by omega)), ldA_n (show k < 4096 by omega) (by omega), k78]
  simp only [Option.bind_some]
  rw [p1, u1]
  simp only [Option.bind_some]
  have v1' : lp (M_chain_s7 (nI f) (nI o)) FUEL (0, u) = some v := v1
  rw [v1']
  simp only [Option.bind_some]
  rw [m_numberOf rv.1 w ov]
  simp only [Option.bind_some]
  rw [ldA_n nt (by omega)]
  simp only [Option.bind_some, o1]
  by_cases inq : ∃ i, i < m ∧ q i = up (q k) f o
  · obtain ⟨i, i1, i2⟩ := inq
    have e7 : v.1 77 (nu A (up (q k) f o)) = nI (d i) := by rw [← i2]; exact (rv.2.1 i i1).2.2
    have di := b.2.2.2.2.2.2.2 i i1
    rw [e7, if_neg (show ¬ nI (d i) < 0 from nI_pos (by omega))]
    simp only [Option.bind_some, Bool.false_eq_true, if_false]
    exact ⟨v, m, q, d, rfl, gq, ⟨b, rv⟩, EX.rf k m q d, fun _ => ⟨i, i1, i2⟩⟩
  · have nq : ∀ i, i < m → q i ≠ up (q k) f o := fun i hi z => inq ⟨i, hi, z⟩
    have nv : ∀ i, i < m → nu A (q i) ≠ nu A (up (q k) f o) := fun i hi z => nq i hi (nu_eq (g1 i hi).1 okt z)
    have e7 : v.1 77 (nu A (up (q k) f o)) = -4 := rv.2.2 _ nt nv
    rw [e7, if_pos (show (-4 : Int32) < 0 by decide), m_isFine rv.1 w ov]
    simp only [Option.bind_some]
    cases hl : lw A (up (q k) f o)
    · simp only [Bool.false_eq_true, if_false, Option.bind_some]
      exact ⟨v, m, q, d, rfl, gq, ⟨b, rv⟩, EX.rf k m q d, fun z => by cases z⟩
    · have m5 := hb.ne w okt nq
      have dk := b.2.2.2.2.2.2.2 k hk
      simp only [if_true]
      rw [ldA_n (show k < 4096 by omega) (by omega), (rv.2.1 k hk).2.1]
      simp only [Option.bind_some]
      rw [ldA_n nk (by omega), (rv.2.1 k hk).2.2]
      simp only [Option.bind_some]
      rw [stA_n nt (by omega)]
      simp only [Option.bind_some]
      rw [stA_n m5 (by omega)]
      simp only [Option.bind_some, li_1, nI_add]
      refine ⟨_, m + 1, fun i => if i = m then up (q k) f o else q i, fun i => if i = m then d k + 1 else d i, rfl, ag_st (ag_st gq (by unfold pQ2; omega)) (by unfold pQ2; omega), ⟨BI_add b hk ⟨f, o, hf, ho, rfl, hl⟩ nq (fun i hi => if_neg (show ¬ i = m by omega)) (if_pos rfl) (fun i hi => if_neg (show ¬ i = m by omega)) (if_pos rfl), ?_, fun i hi => ?_, fun c hc z => ?_⟩, ⟨by omega, fun i hi => ⟨if_neg (show ¬ i = m by omega), if_neg (show ¬ i = m by omega)⟩, fun i h1 h2 => if_pos (show i = m by omega)⟩, fun _ => ⟨m, by omega, if_pos rfl⟩⟩
      · exact (rv.1.sx (Or.inl (Or.inr (Or.inl (by omega))))).sx (Or.inl (Or.inr (Or.inl (by omega))))
      · by_cases e : i = m
        · simp only [if_pos e]
          refine ⟨okt, ?_, ?_⟩
          · rw [si_at, if_pos e]
          · rw [si_ne (by omega), si_at, if_pos rfl]
        · simp only [if_neg e]
          obtain ⟨a1, a2, a3⟩ := rv.2.1 i (by omega)
          refine ⟨a1, ?_, ?_⟩
          · rw [si_at, if_neg e, si_ne (by omega)]; exact a2
          · rw [si_ne (by omega), si_at, if_neg (nv i (by omega))]; exact a3
      · have z1 := z m (by omega)
        simp only [if_true] at z1
        rw [si_ne (by omega), si_at, if_neg (fun y => z1 y.symm)]
        refine rv.2.2 c hc fun i hi => ?_
        have := z i (by omega)
        simp only [if_neg (show ¬ i = m by omega)] at this
        exact this
theorem m_people {A : LV} {s0 : Nat → Nat} {k m f : Nat} {q : Nat → Nat → Nat} {d : Nat → Nat} {μ : MI} (w : WF A) (h : RT A s0 k m q d μ) (hk : k < m) (hf : f < A.n) : ∃ μ' n r c, lp (M_chain_s6 (nI k) (nI f)) FUEL (nI m, 0, μ) = some (nI n, μ') ∧ ag pQ2 μ μ' ∧ RT A s0 k n r c μ' ∧ EX k m q d n r c ∧ ∀ o, o ≤ A.p → lw A (up (q k) f o) = true → ∃ i, i < n ∧ r i = up (q k) f o := by
  have hp := w.p3
  obtain ⟨o, a1, a2⟩ := lp_inv (step := M_chain_s6 (nI k) (nI f)) (s := (nI m, nI 0, μ)) (fun o t => ∃ n r c, t.1 = nI n ∧ t.2.1 = nI o ∧ ag pQ2 μ t.2.2 ∧ RT A s0 k n r c t.2.2 ∧ EX k m q d n r c ∧ ∀ g, g < o → lw A (up (q k) f g) = true → ∃ i, i < n ∧ r i = up (q k) f g) (fun o => ∃ n r c, o.1 = nI n ∧ ag pQ2 μ o.2 ∧ RT A s0 k n r c o.2 ∧ EX k m q d n r c ∧ ∀ g, g ≤ A.p → lw A (up (q k) f g) = true → ∃ i, i < n ∧ r i = up (q k) f g) (A.p + 1) (by omega) ⟨m, q, d, rfl, rfl, ag_rf _ _, h, EX.rf k m q d, fun g z => absurd z (Nat.not_lt_zero _)⟩ (by
      rintro o ⟨x, y, s⟩ ho ⟨n, r, c, t1, t2, t3, t4, t5, t6⟩
      simp only at t1 t2 t3 t4; subst t1; subst t2
      have kn : k < n := by have := t5.1; omega
      obtain ⟨s', n', r', c', u1, u2, u3, u4, u5⟩ := m_try w t4 kn hf (o := o) (by omega)
      refine Or.inl ⟨_, u1, n', r', c', rfl, rfl, ag_tr t3 u2, u3, t5.tr u4 hk, fun g hg hl => ?_⟩
      by_cases z : g = o
      · rw [z] at hl ⊢
        rw [(t5.2.1 k hk).1] at u5
        exact u5 hl
      · obtain ⟨i, i1, i2⟩ := t6 g (by omega) hl
        exact ⟨i, by have := u4.1; omega, by rw [(u4.2.1 i i1).1]; exact i2⟩) (by
      rintro ⟨x, y, s⟩ ⟨n, r, c, t1, t2, t3, t4, t5, t6⟩
      simp only at t1 t2 t3 t4; subst t1; subst t2
      refine ⟨(nI n, s), ?_, n, r, c, rfl, t3, t4, t5, fun g hg hl => t6 g (by omega) hl⟩
      unfold M_chain_s6
      simp only []
      rw [t4.2.1.hp, if_neg (nI_ge (show A.p < A.p + 1 by omega) (by omega))])
  obtain ⟨x, s⟩ := o
  obtain ⟨n, r, c, t1, t3, t4, t5, t6⟩ := a2
  simp only at t1 t3 t4; subst t1
  exact ⟨s, n, r, c, a1, t3, t4, t5, t6⟩
theorem m_fields {A : LV} {s0 : Nat → Nat} {k m : Nat} {q : Nat → Nat → Nat} {d : Nat → Nat} {μ : MI} (w : WF A) (h : RT A s0 k m q d μ) (hk : k < m) : ∃ μ' n r c, lp (M_chain_s5 (nI k)) FUEL (nI m, 0, μ) = some (nI n, μ') ∧ ag pQ2 μ μ' ∧ RT A s0 (k + 1) n r c μ' := by
  have hn := w.n6
  obtain ⟨o, a1, a2⟩ := lp_inv (step := M_chain_s5 (nI k)) (s := (nI m, nI 0, μ)) (fun f t => ∃ n r c, t.1 = nI n ∧ t.2.1 = nI f ∧ ag pQ2 μ t.2.2 ∧ RT A s0 k n r c t.2.2 ∧ EX k m q d n r c ∧ ∀ g o, g < f → o ≤ A.p → lw A (up (q k) g o) = true → ∃ i, i < n ∧ r i = up (q k) g o) (fun o => ∃ n r c, o.1 = nI n ∧ ag pQ2 μ o.2 ∧ RT A s0 (k + 1) n r c o.2) A.n (by omega) ⟨m, q, d, rfl, rfl, ag_rf _ _, h, EX.rf k m q d, fun g o z => absurd z (Nat.not_lt_zero _)⟩ (by
      rintro f ⟨x, y, s⟩ hf ⟨n, r, c, t1, t2, t3, t4, t5, t6⟩
      simp only at t1 t2 t3 t4; subst t1; subst t2
      have kn : k < n := by have := t5.1; omega
      obtain ⟨s', n', r', c', u1, u2, u3, u4, u5⟩ := m_people w t4 kn hf
      refine Or.inl ⟨(nI n', nI (f + 1), s'), ?_, n', r', c', rfl, rfl, ag_tr t3 u2, u3, t5.tr u4 hk, fun g o hg ho hl => ?_⟩
      · unfold M_chain_s5
        simp only []
        rw [t4.2.1.hn, if_pos (nI_lt hf (by omega)), u1]
        simp only [Option.bind_some, li_1, nI_add]
      · by_cases z : g = f
        · rw [z] at hl ⊢
          rw [(t5.2.1 k hk).1] at u5
          exact u5 o ho hl
        · obtain ⟨i, i1, i2⟩ := t6 g o (by omega) ho hl
          exact ⟨i, by have := u4.1; omega, by rw [(u4.2.1 i i1).1]; exact i2⟩) (by
      rintro ⟨x, y, s⟩ ⟨n, r, c, t1, t2, t3, t4, t5, t6⟩
      simp only at t1 t2 t3 t4; subst t1; subst t2
      refine ⟨(nI n, s), ?_, n, r, c, rfl, t3, ⟨BI_next t4.1 (by have := t5.1; omega) fun t ht => ?_, t4.2⟩⟩
      · unfold M_chain_s5
        simp only []
        rw [t4.2.1.hn, if_neg (nI_nlt (Nat.le_refl _) (by omega))]
      · rw [(t5.2.1 k hk).1] at ht
        obtain ⟨f, o, hf, ho, et, hl⟩ := ht
        rw [et] at hl
        obtain ⟨i, i1, i2⟩ := t6 f o hf ho hl
        exact ⟨i, i1, by rw [i2, et]⟩)
  obtain ⟨x, s⟩ := o
  obtain ⟨n, r, c, t1, t3, t4⟩ := a2
  simp only at t1 t3 t4; subst t1
  exact ⟨s, n, r, c, a1, t3, t4⟩
theorem RT.ans {A : LV} {s0 e : Nat → Nat} {k m : Nat} {q : Nat → Nat → Nat} {d : Nat → Nat} {μ : MI} (w : WF A) (h : RT A s0 k m q d μ) (oe : OKs A e) (z : k = m ∨ ¬ μ.1 77 (nu A e) < 0) : SD (nbG A) s0 e (μ.1 77 (nu A e)) := by
  obtain ⟨b, g0, g1, g2⟩ := h
  by_cases inq : ∃ i, i < m ∧ q i = e
  · obtain ⟨i, i1, i2⟩ := inq
    have := (g1 i i1).2.2
    rw [i2] at this
    rw [this]
    exact BI_yes b i1 i2
  · have nq : ∀ i, i < m → q i ≠ e := fun i hi y => inq ⟨i, hi, y⟩
    have e7 := g2 _ (nu_lt w oe.1) (fun i hi y => nq i hi (nu_eq (g1 i hi).1 oe y))
    rw [e7] at z ⊢
    rcases z with z | z
    · rw [z] at b
      exact BI_no b nq
    · exact absurd (by decide) z
theorem m_queue {A : LV} {s0 e : Nat → Nat} {μ : MI} (w : WF A) (oe : OKs A e) (h : RT A s0 0 1 (fun _ => s0) (fun _ => 0) μ) : ∃ n s, lp (M_chain_s4 (nI (nu A e))) FUEL (1, 0, μ) = some (n, s) ∧ ag pQ2 μ s ∧ SD (nbG A) s0 e (s.1 77 (nu A e)) := by
  have ne := nu_lt w oe.1
  obtain ⟨o, a1, a2⟩ := lp_inv (step := M_chain_s4 (nI (nu A e))) (s := (nI 1, nI 0, μ)) (fun k t => ∃ m q d, t.1 = nI m ∧ t.2.1 = nI k ∧ ag pQ2 μ t.2.2 ∧ RT A s0 k m q d t.2.2) (fun o => ag pQ2 μ o.2 ∧ SD (nbG A) s0 e (o.2.1 77 (nu A e))) 4096 (by omega) ⟨1, fun _ => s0, fun _ => 0, rfl, rfl, ag_rf _ _, h⟩ (by
      rintro k ⟨x, y, s⟩ hk ⟨m, q, d, t1, t2, t3, t4⟩
      simp only at t1 t2 t3 t4; subst t1; subst t2
      have m4 := t4.bd w
      have km := t4.1.2.2.2.2.2.2.1
      unfold M_chain_s4
      simp only []
      by_cases c1 : k < m
      · rw [if_pos (nI_lt c1 (by omega)), ldA_n ne (by omega)]
        simp only [Option.bind_some]
        by_cases c2 : s.1 77 (nu A e) < 0
        · rw [decide_eq_true c2]
          obtain ⟨s', n, r, c, u1, u2, u3⟩ := m_fields w t4 c1
          refine Or.inl ⟨(nI n, nI (k + 1), s'), ?_, n, r, c, rfl, rfl, ag_tr t3 u2, u3⟩
          simp only [if_true]
          rw [u1]
          simp only [Option.bind_some, li_1, nI_add]
        · rw [decide_eq_false c2]
          exact Or.inr ⟨(nI m, s), by simp only [Bool.false_eq_true, if_false], t3, t4.ans w oe (Or.inr c2)⟩
      · rw [if_neg (nI_nlt (by omega) (by omega))]
        exact Or.inr ⟨(nI m, s), by simp only [Option.bind_some, Bool.false_eq_true, if_false], t3, t4.ans w oe (Or.inl (by omega))⟩) (by
      rintro ⟨x, y, s⟩ ⟨m, q, d, t1, t2, t3, t4⟩
      simp only at t1 t2 t3 t4; subst t1; subst t2
      have m4 := t4.bd w
      have km := t4.1.2.2.2.2.2.2.1
      refine ⟨(nI m, s), ?_, t3, t4.ans w oe (Or.inl (by omega))⟩
      unfold M_chain_s4
      simp only []
      rw [if_neg (nI_nlt (by omega) (by omega))]
      simp only [Option.bind_some, Bool.false_eq_true, if_false])
  obtain ⟨n, s⟩ := o
  exact ⟨n, s, a1, a2.1, a2.2⟩
