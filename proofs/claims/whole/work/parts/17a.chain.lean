/-! ===== chain: a search by breadth, and what is shortest ===== -/
def Fr {σ : Type} (nb : σ → σ → Prop) (s0 : σ) : Nat → σ → Prop
  | 0, t => t = s0
  | k + 1, t => Fr nb s0 k t ∨ ∃ s, Fr nb s0 k s ∧ nb s t
theorem Fr_mo {σ : Type} {nb : σ → σ → Prop} {s0 t : σ} {j : Nat} : ∀ {k : Nat}, Fr nb s0 j t → Fr nb s0 (j + k) t
  | 0, q => q
  | k + 1, q => Or.inl (Fr_mo (k := k) q)
def Bk {σ : Type} (nb : σ → σ → Prop) (e : σ) : Nat → σ → Prop
  | 0, s => s = e
  | k + 1, s => Bk nb e k s ∨ ∃ t, nb s t ∧ Bk nb e k t
theorem Fr_Bk {σ : Type} {nb : σ → σ → Prop} {s0 e : σ} : ∀ (j k : Nat) (t : σ), Fr nb s0 j t → Bk nb e k t → Bk nb e (j + k) s0
  | 0, k, t, h, q => by
    have h : t = s0 := h
    rw [Nat.zero_add, ← h]; exact q
  | j + 1, k, t, h, q => by
    rw [show j + 1 + k = j + k + 1 by omega]
    rcases h with h | ⟨s, hs, hn⟩
    · exact Or.inl (Fr_Bk j k t h q)
    · have := Fr_Bk j (k + 1) s hs (Or.inr ⟨t, hn, q⟩)
      rw [show j + k + 1 = j + (k + 1) by omega]
      exact this
theorem Bk_Fr {σ : Type} {nb : σ → σ → Prop} {s0 e : σ} : ∀ (k j : Nat) (s : σ), Bk nb e k s → Fr nb s0 j s → Fr nb s0 (j + k) e
  | 0, j, s, h, q => by
    have h : s = e := h
    rw [Nat.add_zero, ← h]; exact q
  | k + 1, j, s, h, q => by
    rcases h with h | ⟨t, hn, ht⟩
    · exact Or.inl (Bk_Fr k j s h q)
    · have := Bk_Fr k (j + 1) t ht (Or.inr ⟨s, q, hn⟩)
      rw [show j + (k + 1) = j + 1 + k by omega]
      exact this
theorem Fr_iff {σ : Type} {nb : σ → σ → Prop} {s0 e : σ} {j : Nat} : Fr nb s0 j e ↔ Bk nb e j s0 :=
  ⟨fun h => Fr_Bk j 0 e h rfl, fun h => by have := Bk_Fr j 0 s0 h (show Fr nb s0 0 s0 from rfl); rw [Nat.zero_add] at this; exact this⟩
/-- the shortest, as an answer -/
def SD {σ : Type} (nb : σ → σ → Prop) (s0 e : σ) (r : Int32) : Prop := (∃ j, r = nI j ∧ Fr nb s0 j e ∧ ∀ i, Fr nb s0 i e → j ≤ i) ∨ (r = -4 ∧ ∀ j, ¬ Fr nb s0 j e)
theorem SD_un {σ : Type} {nb nc : σ → σ → Prop} {s0 e : σ} {r x : Int32} (h1 : SD nb s0 e r) (h2 : SD nc s0 e x) (h : ∀ j, Fr nb s0 j e ↔ Fr nc s0 j e) : r = x := by
  rcases h1 with ⟨j, a1, a2, a3⟩ | ⟨a1, a2⟩
  · rcases h2 with ⟨i, b1, b2, b3⟩ | ⟨b1, b2⟩
    · have h3 := a3 i ((h i).mpr b2)
      have h4 := b3 j ((h j).mp a2)
      rw [a1, b1, show j = i by omega]
    · exact absurd ((h j).mp a2) (b2 j)
  · rcases h2 with ⟨i, b1, b2, b3⟩ | ⟨b1, b2⟩
    · exact absurd ((h i).mpr b2) (a2 i)
    · rw [a1, b1]
/-- a queue by breadth: m in it, the first k looked at -/
def BI {σ : Type} (nb : σ → σ → Prop) (s0 : σ) (k m : Nat) (q : Nat → σ) (d : Nat → Nat) : Prop :=
  (0 < m ∧ q 0 = s0 ∧ d 0 = 0) ∧ (∀ i, i < m → Fr nb s0 (d i) (q i)) ∧ (∀ i j, i ≤ j → j < m → d i ≤ d j) ∧ (k < m → ∀ j, j < m → d j ≤ d k + 1) ∧ (∀ i, i < k → ∀ t, nb (q i) t → ∃ j, j < m ∧ q j = t ∧ d j ≤ d i + 1) ∧ (∀ i j, i < m → j < m → q i = q j → i = j) ∧ k ≤ m ∧ (∀ i, i < m → d i ≤ i)
theorem BI_0 {σ : Type} (nb : σ → σ → Prop) (s0 : σ) : BI nb s0 0 1 (fun _ => s0) (fun _ => 0) :=
  ⟨⟨by omega, rfl, rfl⟩, fun i _ => rfl, fun i j _ _ => Nat.le_refl _, fun _ j _ => Nat.zero_le _, fun i hi => absurd hi (Nat.not_lt_zero _), fun i j hi hj _ => by omega, by omega, fun i _ => Nat.zero_le _⟩
theorem BI_add {σ : Type} {nb : σ → σ → Prop} {s0 t : σ} {k m : Nat} {q Q : Nat → σ} {d D : Nat → Nat} (h : BI nb s0 k m q d) (hk : k < m) (hn : nb (q k) t) (hq : ∀ i, i < m → q i ≠ t) (Q1 : ∀ i, i < m → Q i = q i) (Q2 : Q m = t) (D1 : ∀ i, i < m → D i = d i) (D2 : D m = d k + 1) : BI nb s0 k (m + 1) Q D := by
  obtain ⟨⟨a1, a2, a3⟩, b, c, e, f, g, l, o⟩ := h
  have e := e hk
  refine ⟨⟨by omega, by rw [Q1 0 a1]; exact a2, by rw [D1 0 a1]; exact a3⟩, fun i hi => ?_, fun i j hij hj => ?_, fun _ j hj => ?_, fun i hi z hz => ?_, fun i j hi hj z => ?_, by omega, fun i hi => ?_⟩
  · by_cases x : i = m
    · rw [x, Q2, D2]; exact Or.inr ⟨q k, b k hk, hn⟩
    · rw [Q1 i (by omega), D1 i (by omega)]; exact b i (by omega)
  · by_cases x : j = m
    · by_cases y : i = m
      · rw [x, y]; exact Nat.le_refl _
      · rw [x, D2, D1 i (by omega)]; exact e i (by omega)
    · rw [D1 i (by omega), D1 j (by omega)]; exact c i j hij (by omega)
  · rw [D1 k hk]
    by_cases x : j = m
    · rw [x, D2]; exact Nat.le_refl _
    · rw [D1 j (by omega)]; exact e j (by omega)
  · rw [Q1 i (by omega)] at hz
    obtain ⟨j, j1, j2, j3⟩ := f i hi z hz
    exact ⟨j, by omega, by rw [Q1 j j1]; exact j2, by rw [D1 j j1, D1 i (by omega)]; exact j3⟩
  · by_cases x : i = m
    · by_cases y : j = m
      · omega
      · exfalso
        rw [x, Q2, Q1 j (by omega)] at z
        exact hq j (by omega) z.symm
    · by_cases y : j = m
      · exfalso
        rw [y, Q2, Q1 i (by omega)] at z
        exact hq i (by omega) z
      · rw [Q1 i (by omega), Q1 j (by omega)] at z
        exact g i j (by omega) (by omega) z
  · by_cases x : i = m
    · rw [x, D2]
      have := o k hk
      omega
    · rw [D1 i (by omega)]; exact o i (by omega)
theorem BI_next {σ : Type} {nb : σ → σ → Prop} {s0 : σ} {k m : Nat} {q : Nat → σ} {d : Nat → Nat} (h : BI nb s0 k m q d) (hk : k < m) (hn : ∀ t, nb (q k) t → ∃ j, j < m ∧ q j = t) : BI nb s0 (k + 1) m q d := by
  obtain ⟨a, b, c, e, f, g, l, o⟩ := h
  have e := e hk
  refine ⟨a, b, c, fun hk1 j hj => ?_, fun i hi t ht => ?_, g, by omega, o⟩
  · have h1 := e j hj
    have h2 := c k (k + 1) (by omega) hk1
    omega
  · by_cases x : i = k
    · rw [x] at ht ⊢
      obtain ⟨j, j1, j2⟩ := hn t ht
      exact ⟨j, j1, j2, e j j1⟩
    · exact f i (by omega) t ht
theorem BI_key {σ : Type} {nb : σ → σ → Prop} {s0 : σ} {k m : Nat} {q : Nat → σ} {d : Nat → Nat} (h : BI nb s0 k m q d) : ∀ (j : Nat) (t : σ), (k < m → j ≤ d k) → Fr nb s0 j t → ∃ i, i < m ∧ q i = t ∧ d i ≤ j := by
  obtain ⟨⟨a1, a2, a3⟩, b, c, e, f, g, l, o⟩ := h
  intro j
  induction j with
  | zero => intro t _ ht; exact ⟨0, a1, a2.trans (Eq.symm ht), by omega⟩
  | succ j ih =>
    intro t hk ht
    rcases ht with ht | ⟨s, hs, hn⟩
    · obtain ⟨i, i1, i2, i3⟩ := ih t (fun z => by have := hk z; omega) ht
      exact ⟨i, i1, i2, by omega⟩
    · obtain ⟨i, i1, i2, i3⟩ := ih s (fun z => by have := hk z; omega) hs
      subst i2
      have ik : i < k := by
        rcases Nat.lt_or_ge i k with z | z
        · exact z
        · have h1 := hk (by omega)
          have h2 := c k i z i1
          omega
      obtain ⟨x, x1, x2, x3⟩ := f i ik t hn
      exact ⟨x, x1, x2, by omega⟩
theorem BI_min {σ : Type} {nb : σ → σ → Prop} {s0 : σ} {k m : Nat} {q : Nat → σ} {d : Nat → Nat} (h : BI nb s0 k m q d) {i j : Nat} (hi : i < m) (hj : Fr nb s0 j (q i)) : d i ≤ j := by
  have key := BI_key h j (q i)
  obtain ⟨_, b, c, e, f, g, l, o⟩ := h
  by_cases z : k < m ∧ d k < j
  · have := e z.1 i hi
    omega
  · obtain ⟨x, x1, x2, x3⟩ := key (fun y => by omega) hj
    have := g x i x1 hi x2
    rw [← this]; exact x3
theorem BI_yes {σ : Type} {nb : σ → σ → Prop} {s0 e : σ} {k m i : Nat} {q : Nat → σ} {d : Nat → Nat} (h : BI nb s0 k m q d) (hi : i < m) (he : q i = e) : SD nb s0 e (nI (d i)) := by
  subst he
  exact Or.inl ⟨d i, rfl, h.2.1 i hi, fun j hj => BI_min h hi hj⟩
theorem BI_no {σ : Type} {nb : σ → σ → Prop} {s0 e : σ} {m : Nat} {q : Nat → σ} {d : Nat → Nat} (h : BI nb s0 m m q d) (he : ∀ i, i < m → q i ≠ e) : SD nb s0 e (-4) := by
  refine Or.inr ⟨rfl, fun j hj => ?_⟩
  obtain ⟨i, i1, i2, _⟩ := BI_key h j e (fun z => absurd z (Nat.lt_irrefl _)) hj
  exact he i i1 i2
theorem pig : ∀ (N m : Nat) (f : Nat → Nat), (∀ i, i < m → f i < N) → (∀ i j, i < m → j < m → f i = f j → i = j) → m ≤ N
  | 0, m, f, h, _ => by
    rcases Nat.eq_zero_or_pos m with z | z
    · omega
    · have := h 0 z; omega
  | N + 1, m, f, h, g => by
    by_cases x : ∃ i, i < m ∧ f i = N
    · obtain ⟨i, hi, e⟩ := x
      have := pig N (m - 1) (fun j => if j = i then f (m - 1) else f j) (fun j hj => by
        show (if j = i then f (m - 1) else f j) < N
        by_cases y : j = i
        · rw [if_pos y]
          have a := h (m - 1) (by omega)
          have b : f (m - 1) ≠ N := fun z => by have := g (m - 1) i (by omega) hi (z.trans e.symm); omega
          omega
        · rw [if_neg y]
          have a := h j (by omega)
          have b : f j ≠ N := fun z => y (g j i (by omega) hi (z.trans e.symm))
          omega) (fun j k hj hk z => by
        have z : (if j = i then f (m - 1) else f j) = (if k = i then f (m - 1) else f k) := z
        by_cases y : j = i
        · by_cases y2 : k = i
          · omega
          · rw [if_pos y, if_neg y2] at z
            have := g (m - 1) k (by omega) (by omega) z
            omega
        · by_cases y2 : k = i
          · rw [if_neg y, if_pos y2] at z
            have := g j (m - 1) (by omega) (by omega) z
            omega
          · rw [if_neg y, if_neg y2] at z
            exact g j k (by omega) (by omega) z)
      omega
    · have := pig N m f (fun i hi => by
        have a := h i hi
        have b : f i ≠ N := fun z => x ⟨i, hi, z⟩
        omega) g
      omega
/-! what may be changed -/
def up (s : Nat → Nat) (f o : Nat) : Nat → Nat := fun x => if x = f then o else s x
def nbR (A : LV) (e : Nat → Nat) (s t : Nat → Nat) : Prop := ∃ f o, f < A.n ∧ (o = 0 ∨ o = e f) ∧ t = up s f o ∧ lw A t = true
def nbG (A : LV) (s t : Nat → Nat) : Prop := ∃ f o, f < A.n ∧ o ≤ A.p ∧ t = up s f o ∧ lw A t = true
theorem up_at (s : Nat → Nat) (f o : Nat) : up s f o f = o := if_pos rfl
theorem up_ne {s : Nat → Nat} {f o x : Nat} (h : x ≠ f) : up s f o x = s x := if_neg h
theorem up_up (s : Nat → Nat) (f o u : Nat) : up (up s f u) f o = up s f o := by
  funext x
  by_cases h : x = f
  · rw [h, up_at, up_at]
  · rw [up_ne h, up_ne h, up_ne h]
theorem up_sw (s : Nat → Nat) {f g : Nat} (o u : Nat) (h : g ≠ f) : up (up s f u) g o = up (up s g o) f u := by
  funext x
  by_cases h1 : x = g
  · rw [h1, up_at, up_ne h, up_at]
  · by_cases h2 : x = f
    · rw [h2, up_ne (fun z => h z.symm), up_at, up_at]
    · rw [up_ne h1, up_ne h2, up_ne h2, up_ne h1]
theorem lw_sub {A : LV} (w : WF A) {g h : Nat → Nat} (hl : lw A g = true) (q : ∀ f, f < A.n → h f = g f ∨ h f = 0) : lw A h = true := by
  rw [lw_iff w] at hl ⊢
  intro a b ha hb
  have := hl a b ha hb
  unfold bad at this ⊢
  rcases q a ha with z | z
  · rcases q b hb with y | y
    · rw [z, y]; exact this
    · rw [y, one_0r, Bool.and_false]
  · rw [z, one_0, Bool.and_false]
theorem Bk_nob {A : LV} (w : WF A) {e : Nat → Nat} : ∀ (m : Nat) (t : Nat → Nat) (f : Nat), Bk (nbR A e) e m t → f < A.n → t f ≠ e f → Bk (nbR A e) e m (up t f 0)
  | 0, t, f, h, _, hne => by
    have h : t = e := h
    rw [h] at hne
    exact absurd rfl hne
  | m + 1, t, f, h, hf, hne => by
    rcases h with h | ⟨t1, ⟨g, o, hg, ho, ht, hl⟩, q⟩
    · exact Or.inl (Bk_nob w m t f h hf hne)
    · by_cases x : g = f
      · rw [x] at ht ho
        rcases ho with ho | ho
        · rw [ho] at ht
          rw [← ht]; exact Or.inl q
        · exact Or.inr ⟨t1, ⟨f, e f, hf, Or.inr rfl, by rw [up_up, ht, ho], hl⟩, q⟩
      · refine Or.inr ⟨up t1 f 0, ⟨g, o, hg, ho, by rw [ht]; exact (up_sw t o 0 x).symm, lw_sub w hl fun y _ => ?_⟩, Bk_nob w m t1 f q hf (by rw [ht, up_ne (fun z => x z.symm)]; exact hne)⟩
        by_cases h1 : y = f
        · rw [h1, up_at]; exact Or.inr rfl
        · rw [up_ne h1]; exact Or.inl rfl
theorem Bk_GR {A : LV} (w : WF A) {e : Nat → Nat} : ∀ (k : Nat) (s : Nat → Nat), Bk (nbG A) e k s → Bk (nbR A e) e k s
  | 0, _, h => h
  | k + 1, s, h => by
    rcases h with h | ⟨t, ⟨f, o, hf, _, ht, hl⟩, q⟩
    · exact Or.inl (Bk_GR w k s h)
    · have q' := Bk_GR w k t q
      by_cases x : o = 0 ∨ o = e f
      · exact Or.inr ⟨t, ⟨f, o, hf, x, ht, hl⟩, q'⟩
      · have r := Bk_nob w k t f q' hf (by rw [ht, up_at]; exact fun z => x (Or.inr z))
        rw [ht, up_up] at r
        refine Or.inr ⟨up s f 0, ⟨f, 0, hf, Or.inl rfl, rfl, lw_sub w hl fun y _ => ?_⟩, r⟩
        rw [ht]
        by_cases h1 : y = f
        · rw [h1, up_at]; exact Or.inr rfl
        · rw [up_ne h1, up_ne h1]; exact Or.inl rfl
theorem Bk_RG {A : LV} {e : Nat → Nat} (he : ∀ f, f < A.n → e f ≤ A.p) : ∀ (k : Nat) (s : Nat → Nat), Bk (nbR A e) e k s → Bk (nbG A) e k s
  | 0, _, h => h
  | k + 1, s, h => by
    rcases h with h | ⟨t, ⟨f, o, hf, ho, ht, hl⟩, q⟩
    · exact Or.inl (Bk_RG he k s h)
    · have h1 := he f hf
      exact Or.inr ⟨t, ⟨f, o, hf, by omega, ht, hl⟩, Bk_RG he k t q⟩
theorem Fr_RG {A : LV} (w : WF A) {s0 e : Nat → Nat} (he : ∀ f, f < A.n → e f ≤ A.p) (j : Nat) : Fr (nbR A e) s0 j e ↔ Fr (nbG A) s0 j e := by
  rw [Fr_iff, Fr_iff]
  exact ⟨Bk_RG he j s0, Bk_GR w j s0⟩
