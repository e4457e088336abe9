/-! ===== chain: the class's search ===== -/
def OKs (A : LV) (t : Nat → Nat) : Prop := (∀ f, f < A.n → t f ≤ A.p) ∧ ∀ f, A.n ≤ f → t f = 0
def RSs (A : LV) (s0 e t : Nat → Nat) : Prop := ∀ f, f < A.n → t f = s0 f ∨ t f = 0 ∨ t f = e f
theorem OKs.up {A : LV} {s : Nat → Nat} {f o : Nat} (h : OKs A s) (hf : f < A.n) (ho : o ≤ A.p) : OKs A (up s f o) :=
  ⟨up_le h.1 ho, fun g hg => by rw [up_ne (show g ≠ f by omega)]; exact h.2 g hg⟩
theorem RSs.up {A : LV} {s0 e s : Nat → Nat} {f o : Nat} (h : RSs A s0 e s) (ho : o = 0 ∨ o = e f) : RSs A s0 e (up s f o) := fun g hg => by
  by_cases z : g = f
  · rw [z, up_at]; exact Or.inr ho
  · rw [up_ne z]; exact h g hg
theorem OKs.l3 {A : LV} {t : Nat → Nat} (h : OKs A t) (w : WF A) : ∀ f, f < A.n → t f ≤ 3 := fun f hf => by
  have := h.1 f hf
  have := w.p3
  omega
theorem kd_eq {A : LV} (w : WF A) {s t : Nat → Nat} (hs : OKs A s) (ht : OKs A t) (e : kd s A.n = kd t A.n) : s = t := by
  funext f
  by_cases hf : f < A.n
  · exact kd_inj (hs.l3 w) (ht.l3 w) e f hf
  · rw [hs.2 f (by omega), ht.2 f (by omega)]
def cR (e t : Nat → Nat) (f : Nat) : Nat := if t f = 0 then 0 else if t f = e f then 1 else 2
theorem cR_lt (e t : Nat → Nat) (f : Nat) : cR e t f < 3 := by
  unfold cR
  split
  · omega
  · split <;> omega
theorem R_inj {A : LV} {s0 e s t : Nat → Nat} (hs : OKs A s) (ht : OKs A t) (rs : RSs A s0 e s) (rt : RSs A s0 e t) (q : enc 3 (cR e s) A.n = enc 3 (cR e t) A.n) : s = t := by
  funext f
  by_cases hf : f < A.n
  · have h1 := enc_pfx (P := 3) (d := cR e s) (n := A.n) (fun g _ => cR_lt e s g) f hf
    rw [q, enc_pfx (P := 3) (d := cR e t) (n := A.n) (fun g _ => cR_lt e t g) f hf] at h1
    have a := rs f hf
    have b := rt f hf
    unfold cR at h1
    by_cases z1 : t f = 0
    · rw [if_pos z1] at h1
      by_cases z2 : s f = 0
      · omega
      · rw [if_neg z2] at h1
        split at h1 <;> omega
    · rw [if_neg z1] at h1
      by_cases z2 : s f = 0
      · rw [if_pos z2] at h1
        split at h1 <;> omega
      · rw [if_neg z2] at h1
        by_cases z3 : t f = e f
        · rw [if_pos z3] at h1
          by_cases z4 : s f = e f
          · omega
          · rw [if_neg z4] at h1; omega
        · rw [if_neg z3] at h1
          by_cases z4 : s f = e f
          · rw [if_pos z4] at h1; omega
          · omega
  · rw [hs.2 f (by omega), ht.2 f (by omega)]
theorem R_bound {A : LV} (w : WF A) {s0 e : Nat → Nat} {m : Nat} {q : Nat → Nat → Nat} (hq : ∀ i, i < m → OKs A (q i) ∧ RSs A s0 e (q i)) (inj : ∀ i j, i < m → j < m → q i = q j → i = j) : m ≤ 729 := by
  have h3 : 3 ^ A.n ≤ 3 ^ 6 := Nat.pow_le_pow_right (by decide) w.n6
  exact pig 729 m (fun i => enc 3 (cR e (q i)) A.n) (fun i _ => Nat.lt_of_lt_of_le (enc_lt fun g _ => cR_lt e (q i) g) h3) fun i j hi hj z => inj i j hi hj (R_inj (hq i hi).1 (hq j hj).1 (hq i hi).2 (hq j hj).2 z)
def CI (A : LV) (q : Nat → Nat → Nat) (m : Nat) (μ : MI) : Prop := CR 1 A μ ∧ BRS A 33 μ ∧ μ.1 30 2 = nI m ∧ (∀ i, i < m → OKs A (q i) ∧ μ.1 32 i = nI (kd (q i) A.n) ∧ sn μ (kd (q i) A.n) = true) ∧ (∀ t, OKs A t → sn μ (kd t A.n) = true → lw A t = true → ∃ i, i < m ∧ q i = t)
def pK (a _j : Nat) : Prop := a = 30 ∨ a = 31 ∨ a = 32
theorem c_look {A : LV} {μ : MI} {q : Nat → Nat → Nat} {m : Nat} {t : Nat → Nat} (w : WF A) (h : CI A q m μ) (ht : OKs A t) (hm : (∀ i, i < m → q i ≠ t) → m < 729) : ∃ μ', Changes_look 1 (nI (kd t A.n)) μ = some μ' ∧ ag pK μ μ' ∧ ((CI A q m μ' ∧ (lw A t = true → ∃ i, i < m ∧ q i = t)) ∨ (lw A t = true ∧ (∀ i, i < m → q i ≠ t) ∧ CI A (fun i => if i = m then t else q i) (m + 1) μ')) := by
  have hn := w.n6
  have hp := w.p3
  obtain ⟨h1, h2, h3, h4, h5⟩ := h
  have k12 := kd_lt hn (ht.l3 w)
  unfold Changes_look
  rw [c_isSeen k12]
  simp only [Option.bind_some]
  cases hs : sn μ (kd t A.n)
  · rw [c_markSeen k12]
    simp only [Option.bind_some, Bool.false_eq_true, if_false]
    have g31 : ag pK μ (mkd μ (kd t A.n)) := ag_mo (ag_mkd _ _) (fun a j z => by unfold pK; omega)
    have c1 : CR 1 A (mkd μ (kd t A.n)) := h1.tg g31 (fun a j z1 z2 z3 => by unfold pK at z3; omega)
    have b1 : BRS A 33 (mkd μ (kd t A.n)) := fun f hf => by rw [g31.1 33 f (by unfold pK; omega)]; exact h2 f hf
    have qt : ∀ i, i < m → q i ≠ t := fun i hi z => by
      have := (h4 i hi).2.2
      rw [z, hs] at this; cases this
    have n30 : (mkd μ (kd t A.n)).1 30 2 = nI m := by rw [(ag_mkd μ _).1 30 2 (by omega)]; exact h3
    have r32 : ∀ i, (mkd μ (kd t A.n)).1 32 i = μ.1 32 i := fun i => (ag_mkd μ _).1 32 i (by omega)
    rw [c_chLawful c1 w b1 ht.1]
    simp only [Option.bind_some]
    cases hl : lw A t
    · refine ⟨_, rfl, g31, Or.inl ⟨⟨c1, b1, n30, fun i hi => ⟨(h4 i hi).1, by rw [r32]; exact (h4 i hi).2.1, by rw [sn_mkd, (h4 i hi).2.2]; rfl⟩, fun x hx y z => ?_⟩, fun z => by cases z⟩⟩
      rw [sn_mkd, Bool.or_eq_true, decide_eq_true_eq] at y
      rcases y with y | y
      · exact h5 x hx y z
      · rw [kd_eq w hx ht y, hl] at z; cases z
    · rw [c_reach n30 (hm qt)]
      simp only [Option.bind_some, if_true]
      have snx : ∀ x, sn (si (si (mkd μ (kd t A.n)) 32 m (nI (kd t A.n))) 30 2 (nI (m + 1))) x = sn (mkd μ (kd t A.n)) x := fun x => by
        unfold sn
        rw [si_ne (by omega), si_ne (by omega)]
      refine ⟨_, rfl, ag_st (ag_st g31 (by unfold pK; omega)) (by unfold pK; omega), Or.inr ⟨trivial, qt, (c1.sx (by omega)).sx (by omega), fun f hf => ?_, ?_, fun i hi => ?_, fun x hx y z => ?_⟩⟩
      · rw [si_ne (by omega), si_ne (by omega)]; exact b1 f hf
      · rw [si_at, if_pos rfl]
      · by_cases z : i = m
        · simp only [if_pos z]
          refine ⟨ht, ?_, ?_⟩
          · rw [si_ne (by omega), si_at, if_pos z]
          · rw [snx, sn_mkd, decide_eq_true rfl, Bool.or_true]
        · simp only [if_neg z]
          refine ⟨(h4 i (by omega)).1, ?_, ?_⟩
          · rw [si_ne (by omega), si_at, if_neg z, r32]; exact (h4 i (by omega)).2.1
          · rw [snx, sn_mkd, (h4 i (by omega)).2.2]; rfl
      · rw [snx, sn_mkd, Bool.or_eq_true, decide_eq_true_eq] at y
        rcases y with y | y
        · obtain ⟨i, i1, i2⟩ := h5 x hx y z
          refine ⟨i, by omega, ?_⟩
          simp only [if_neg (show ¬ i = m by omega)]
          exact i2
        · refine ⟨m, by omega, ?_⟩
          simp only [if_true]
          exact (kd_eq w hx ht y).symm
  · simp only [if_true, Option.bind_some]
    exact ⟨μ, rfl, ag_rf _ _, Or.inl ⟨⟨h1, h2, h3, h4, h5⟩, fun z => h5 t ht hs z⟩⟩
def ST (A : LV) (s0 e : Nat → Nat) (k m : Nat) (q : Nat → Nat → Nat) (d : Nat → Nat) (μ : MI) : Prop := BI (nbR A e) s0 k m q d ∧ CI A q m μ ∧ ∀ i, i < m → RSs A s0 e (q i)
def EX (k m : Nat) (q : Nat → Nat → Nat) (d : Nat → Nat) (n : Nat) (r : Nat → Nat → Nat) (c : Nat → Nat) : Prop := m ≤ n ∧ (∀ i, i < m → r i = q i ∧ c i = d i) ∧ ∀ i, m ≤ i → i < n → c i = d k + 1
theorem EX.rf (k m : Nat) (q : Nat → Nat → Nat) (d : Nat → Nat) : EX k m q d m q d := ⟨Nat.le_refl _, fun _ _ => ⟨rfl, rfl⟩, fun i h1 h2 => absurd h1 (by omega)⟩
theorem EX.tr {k m n l : Nat} {q r x : Nat → Nat → Nat} {d c y : Nat → Nat} (h : EX k m q d n r c) (g : EX k n r c l x y) (hk : k < m) : EX k m q d l x y := by
  obtain ⟨h1, h2, h3⟩ := h
  obtain ⟨g1, g2, g3⟩ := g
  refine ⟨by omega, fun i hi => ⟨(g2 i (by omega)).1.trans (h2 i hi).1, (g2 i (by omega)).2.trans (h2 i hi).2⟩, fun i a b => ?_⟩
  by_cases z : i < n
  · rw [(g2 i z).2]; exact h3 i a z
  · rw [g3 i (by omega) b, (h2 k hk).2]
theorem ST.ne {A : LV} {s0 e : Nat → Nat} {k m : Nat} {q : Nat → Nat → Nat} {d : Nat → Nat} {μ : MI} (w : WF A) (h : ST A s0 e k m q d μ) {t : Nat → Nat} (ht : OKs A t) (rt : RSs A s0 e t) (z : ∀ i, i < m → q i ≠ t) : m < 729 := by
  obtain ⟨b, c, r⟩ := h
  have inj := b.2.2.2.2.2.1
  have := R_bound w (s0 := s0) (e := e) (m := m + 1) (q := fun i => if i = m then t else q i) (fun i hi => by
    by_cases y : i = m
    · simp only [if_pos y]; exact ⟨ht, rt⟩
    · simp only [if_neg y]; exact ⟨(c.2.2.2.1 i (by omega)).1, r i (by omega)⟩) (fun i j hi hj y => by
    have y : (if i = m then t else q i) = (if j = m then t else q j) := y
    by_cases y1 : i = m
    · by_cases y2 : j = m
      · omega
      · rw [if_pos y1, if_neg y2] at y
        exact absurd y.symm (z j (by omega))
    · by_cases y2 : j = m
      · rw [if_neg y1, if_pos y2] at y
        exact absurd y (z i (by omega))
      · rw [if_neg y1, if_neg y2] at y
        exact inj i j (by omega) (by omega) y)
  omega
theorem c_lookB {A : LV} {s0 e : Nat → Nat} {k m f o : Nat} {q : Nat → Nat → Nat} {d : Nat → Nat} {μ : MI} (w : WF A) (he : ∀ f, f < A.n → e f ≤ A.p) (h : ST A s0 e k m q d μ) (hk : k < m) (hf : f < A.n) (ho : o = 0 ∨ o = e f) : ∃ μ' n r c, Changes_look 1 (nI (kd (up (q k) f o) A.n)) μ = some μ' ∧ ag pK μ μ' ∧ ST A s0 e k n r c μ' ∧ EX k m q d n r c ∧ (lw A (up (q k) f o) = true → ∃ i, i < n ∧ r i = up (q k) f o) := by
  have hb := h
  obtain ⟨b, c, r⟩ := h
  have okk := (c.2.2.2.1 k hk).1
  have op : o ≤ A.p := by
    rcases ho with z | z
    · omega
    · rw [z]; exact he f hf
  have okt := okk.up hf op
  have rt := (r k hk).up ho
  obtain ⟨μ', e1, e2, e3⟩ := c_look w c okt (fun z => hb.ne w okt rt z)
  rcases e3 with ⟨c', x⟩ | ⟨hl, ne, c'⟩
  · exact ⟨μ', m, q, d, e1, e2, ⟨b, c', r⟩, EX.rf k m q d, x⟩
  · refine ⟨μ', m + 1, fun i => if i = m then up (q k) f o else q i, fun i => if i = m then d k + 1 else d i, e1, e2, ⟨BI_add b hk ⟨f, o, hf, ho, rfl, hl⟩ ne (fun i hi => if_neg (show ¬ i = m by omega)) (if_pos rfl) (fun i hi => if_neg (show ¬ i = m by omega)) (if_pos rfl), c', fun i hi => ?_⟩, ⟨by omega, fun i hi => ⟨if_neg (show ¬ i = m by omega), if_neg (show ¬ i = m by omega)⟩, fun i h1 h2 => if_pos (show i = m by omega)⟩, fun _ => ⟨m, by omega, if_pos rfl⟩⟩
    by_cases z : i = m
    · simp only [if_pos z]; exact rt
    · simp only [if_neg z]; exact r i (by omega)
theorem c_widen {A : LV} {s0 e : Nat → Nat} {k m : Nat} {q : Nat → Nat → Nat} {d : Nat → Nat} {μ : MI} (w : WF A) (he : ∀ f, f < A.n → e f ≤ A.p) (h : ST A s0 e k m q d μ) (hk : k < m) : ∃ μ' n r c, Changes_widenFrom 1 (nI (kd (q k) A.n)) (nI (kd e A.n)) μ = some μ' ∧ ag pK μ μ' ∧ ST A s0 e (k + 1) n r c μ' ∧ EX k m q d n r c := by
  have hn := w.n6
  have hp := w.p3
  have q3 := (h.2.1.2.2.2.1 k hk).1.l3 w
  have e3 : ∀ f, f < A.n → e f ≤ 3 := fun f hf => by have := he f hf; omega
  unfold Changes_widenFrom
  obtain ⟨μ', a1, a2⟩ := lp_m (step := Changes_widenFrom_s1 1 (nI (kd (q k) A.n)) (nI (kd e A.n))) (μ := μ) (fun f s => ∃ n r c, ag pK μ s ∧ ST A s0 e k n r c s ∧ EX k m q d n r c ∧ ∀ g o, g < f → (o = 0 ∨ o = e g) → lw A (up (q k) g o) = true → ∃ i, i < n ∧ r i = up (q k) g o) A.n (by omega) ⟨m, q, d, ag_rf _ _, h, EX.rf k m q d, fun g o z => absurd z (Nat.not_lt_zero _)⟩ (by
      rintro f s hf ⟨n, r, c, b1, b2, b3, b4⟩
      have rk := (b3.2.1 k hk).1
      have s10 : s.1 1 0 = nI A.n := b2.2.1.1.hn
      have E1 : (nI (kd (q k) A.n) ||| ((3 : Int32) <<< ((2 * nI f) &&& 31))) = nI (kd (up (r k) f 0) A.n) := by
        rw [li_3, li_2, pk_mul, shl_v (show 3 < 4 by omega) (show 2 * f < 29 by omega), fa_or, kd_up0 q3 hf, rk]
      obtain ⟨s1, n1, r1, c1, u1, u2, u3, u4, u5⟩ := c_lookB w he b2 (show k < n by have := b3.1; omega) hf (o := 0) (Or.inl rfl)
      have rk1 : r1 k = r k := (u4.2.1 k (by have := b3.1; omega)).1
      have E2 : ((nI (kd (q k) A.n) &&& (((3 : Int32) <<< ((2 * nI f) &&& 31)) ^^^ (-1 : Int32))) ||| (nI (kd e A.n) &&& ((3 : Int32) <<< ((2 * nI f) &&& 31)))) = nI (kd (up (r1 k) f (e f)) A.n) := by
        rw [li_3, li_2, pk_mul, shl_v (show 3 < 4 by omega) (show 2 * f < 29 by omega), andn_v, fa_and, fa_or, kd_upe q3 e3 hf, rk1, rk]
      obtain ⟨s2, n2, r2, c2, v1, v2, v3, v4, v5⟩ := c_lookB w he u3 (show k < n1 by have := b3.1; have := u4.1; omega) hf (o := e f) (Or.inr rfl)
      refine ⟨s2, ?_, n2, r2, c2, ag_tr b1 (ag_tr u2 v2), v3, b3.tr (u4.tr v4 (by have := b3.1; omega)) hk, fun g o hg ho hl => ?_⟩
      · unfold Changes_widenFrom_s1
        simp only []
        rw [s10, if_pos (nI_lt hf (by omega))]
        simp only [Option.bind_some]
        rw [E1, u1]
        simp only [Option.bind_some]
        rw [E2, v1]
        simp only [Option.bind_some, li_1, nI_add]
      · by_cases z : g = f
        · rw [z] at ho hl ⊢
          rcases ho with ho | ho
          · rw [ho] at hl ⊢
            rw [rk] at u5
            obtain ⟨i, i1, i2⟩ := u5 hl
            exact ⟨i, by have := v4.1; omega, by rw [(v4.2.1 i i1).1]; exact i2⟩
          · rw [ho] at hl ⊢
            rw [rk1, rk] at v5
            exact v5 hl
        · obtain ⟨i, i1, i2⟩ := b4 g o (by omega) ho hl
          have z1 := u4.1
          have z2 := v4.1
          exact ⟨i, by omega, by rw [(v4.2.1 i (by omega)).1, (u4.2.1 i i1).1]; exact i2⟩) (by
      rintro s ⟨n, r, c, b1, b2, b3, b4⟩
      have s10 : s.1 1 0 = nI A.n := b2.2.1.1.hn
      simp only [Changes_widenFrom_s1, s10, if_neg (nI_nlt (Nat.le_refl _) (show A.n < 2 ^ 31 by omega))])
  obtain ⟨n, r, c, b1, b2, b3, b4⟩ := a2
  rw [a1]
  refine ⟨μ', n, r, c, rfl, b1, ⟨BI_next b2.1 (by have := b3.1; omega) fun t ht => ?_, b2.2⟩, b3⟩
  rw [(b3.2.1 k hk).1] at ht
  obtain ⟨f, o, hf, ho, et, hl⟩ := ht
  rw [et] at hl
  obtain ⟨i, i1, i2⟩ := b4 f o hf ho hl
  exact ⟨i, i1, by rw [i2, et]⟩
theorem ST.bd {A : LV} {s0 e : Nat → Nat} {k m : Nat} {q : Nat → Nat → Nat} {d : Nat → Nat} {μ : MI} (w : WF A) (h : ST A s0 e k m q d μ) : m ≤ 729 :=
  R_bound w (s0 := s0) (e := e) (fun i hi => ⟨(h.2.1.2.2.2.1 i hi).1, h.2.2 i hi⟩) h.1.2.2.2.2.2.1
theorem c_ring {A : LV} {s0 e : Nat → Nat} {k m z : Nat} {q : Nat → Nat → Nat} {d : Nat → Nat} {μ : MI} (w : WF A) (he : ∀ f, f < A.n → e f ≤ A.p) (h : ST A s0 e k m q d μ) (hk : k ≤ m) (hl : ∀ i, k ≤ i → i < m → d i + 1 = z) : ∃ μ' n r c, lp (Changes_fewestBetween_s2 (nI m) 1 (nI (kd e A.n))) FUEL (nI k, μ) = some (nI m, μ') ∧ ag pK μ μ' ∧ ST A s0 e m n r c μ' ∧ m ≤ n ∧ (∀ i, i < m → r i = q i) ∧ ∀ i, m ≤ i → i < n → c i = z := by
  have m7 := h.bd w
  obtain ⟨o, a1, a2⟩ := lp_inv (step := Changes_fewestBetween_s2 (nI m) 1 (nI (kd e A.n))) (s := (nI k, μ)) (fun j t => t.1 = nI (k + j) ∧ ∃ n r c, ag pK μ t.2 ∧ ST A s0 e (k + j) n r c t.2 ∧ m ≤ n ∧ (∀ i, i < m → r i = q i ∧ c i = d i) ∧ ∀ i, m ≤ i → i < n → c i = z) (fun o => o.1 = nI m ∧ ∃ n r c, ag pK μ o.2 ∧ ST A s0 e m n r c o.2 ∧ m ≤ n ∧ (∀ i, i < m → r i = q i ∧ c i = d i) ∧ ∀ i, m ≤ i → i < n → c i = z) (m - k) (by omega) ⟨rfl, m, q, d, ag_rf _ _, h, Nat.le_refl _, fun _ _ => ⟨rfl, rfl⟩, fun i h1 h2 => absurd h1 (by omega)⟩ (by
      rintro j ⟨i, s⟩ hj ⟨t1, n, r, c, b1, b2, b3, b4, b5⟩
      simp only at t1 b1 b2; subst t1
      have kj : k + j < n := by omega
      obtain ⟨s', n', r', c', u1, u2, u3, u4⟩ := c_widen w he b2 kj
      refine Or.inl ⟨(nI (k + (j + 1)), s'), ?_, rfl, n', r', c', ag_tr b1 u2, u3, by have := u4.1; omega, fun i hi => ?_, fun i h1 h2 => ?_⟩
      · unfold Changes_fewestBetween_s2
        simp only []
        rw [if_pos (nI_lt (show k + j < m by omega) (by omega)), decide_eq_true (show nI (k + j) < 729 from by rw [li_729]; exact nI_lt (by omega) (by omega))]
        simp only [Option.bind_some, if_true]
        rw [ldA_n (show k + j < 729 by omega) (by omega), (b2.2.1.2.2.2.1 (k + j) kj).2.1]
        simp only [Option.bind_some]
        rw [u1]
        simp only [Option.bind_some, li_1, nI_add]
        rfl
      · have x := u4.2.1 i (by omega)
        exact ⟨x.1.trans (b4 i hi).1, x.2.trans (b4 i hi).2⟩
      · by_cases y : i < n
        · rw [(u4.2.1 i y).2]; exact b5 i h1 y
        · rw [u4.2.2 i (by omega) h2, (b4 (k + j) (by omega)).2]
          exact hl (k + j) (by omega) (by omega)) (by
      rintro ⟨i, s⟩ ⟨t1, n, r, c, b1, b2, b3, b4, b5⟩
      simp only at t1 b1 b2; subst t1
      rw [show k + (m - k) = m by omega] at b2
      refine ⟨(nI m, s), ?_, rfl, n, r, c, b1, b2, b3, b4, b5⟩
      unfold Changes_fewestBetween_s2
      simp only []
      rw [show k + (m - k) = m by omega, if_neg (nI_nlt (Nat.le_refl m) (by omega))]
      simp only [Option.bind_some, Bool.false_eq_true, if_false])
  obtain ⟨i, s⟩ := o
  obtain ⟨t1, n, r, c, b1, b2, b3, b4, b5⟩ := a2
  simp only at t1 b1 b2; subst t1
  exact ⟨s, n, r, c, a1, b1, b2, b3, fun i hi => (b4 i hi).1, b5⟩
