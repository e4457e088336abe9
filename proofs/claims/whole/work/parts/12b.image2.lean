theorem CY.out {c b μ m} (h : CY c b μ 76 m) {a j : Nat} (h1 : a ≠ c) (h2 : a < 62 ∨ 68 < a ∨ (a = 62 ∧ j ≠ 0 ∧ j ≠ 3 ∧ j ≠ 4 ∧ j ≠ 5 ∧ j ≠ 40 ∧ j ≠ 41)) : m.1 a j = μ.1 a j := by
  refine h.2.2.2.2.2 a j h1 (by omega) fun k hk e => ?_
  have := cel_rng k hk
  rw [e] at this
  simp only at this
  omega
theorem CY.at {c b μ m} (h : CY c b μ 76 m) {k a j : Nat} (hk : k < 76) (e : cel k = (a, j)) : m.1 a j = (if b = true then μ.1 a j else μ.1 c k) ∧ m.1 c k = (if b = true then μ.1 a j else μ.1 c k) := by
  obtain ⟨h1, h2, h3, h4, h5, h6⟩ := h
  have e5 := h5 k hk
  have e4 := h4 k hk
  rw [if_pos hk] at e4 e5
  unfold CYV at e4 e5
  rw [e] at e4 e5
  exact ⟨e5, e4⟩
theorem CY.take {c A μ m} (h : CY c true μ 76 m) (k : MR A μ) (w : WF A) : MR A m ∧ IR c A m := by
  have hn := w.n6
  have hp := w.p3
  have z : ∀ i a j, i < 76 → cel i = (a, j) → m.1 a j = μ.1 a j ∧ m.1 c i = μ.1 a j := fun i a j hi e => by
    have := h.at hi e
    rw [if_pos rfl] at this; exact this
  refine ⟨⟨?_, ?_, ?_, ?_, fun f hf => ?_, fun f hf => ?_, fun a b ha hb => ?_, fun q hq => ?_, fun q hq => ?_, fun q f hq hf => ?_⟩, ⟨?_, ?_, ?_, ?_, fun f hf => ?_, fun f hf => ?_, fun a b ha hb => ?_, fun q hq => ?_, fun q hq => ?_, fun q f hq hf => ?_⟩⟩
  · rw [(z 0 62 0 (by omega) rfl).1]; exact k.hn
  · rw [(z 3 62 5 (by omega) rfl).1]; exact k.hp
  · rw [(z 1 62 3 (by omega) rfl).1]; exact k.hC
  · rw [(z 2 62 4 (by omega) rfl).1]; exact k.hK
  · rw [(z _ 63 f (by omega) (cel_ac f (by omega)).1).1]; exact k.hac hf
  · rw [(z _ 68 f (by omega) (cel_ac f (by omega)).2).1]; exact k.how hf
  · rw [(z _ 64 (6 * a + b) (by omega) (cel_to _ (by omega))).1]; exact k.hto ha hb
  · rw [(z _ 65 q (by omega) (cel_co q (by omega)).1).1]; exact k.hco hq
  · rw [(z _ 66 q (by omega) (cel_co q (by omega)).2).1]; exact k.hki hq
  · rw [(z _ 67 (6 * q + f) (by omega) (cel_wo _ (by omega))).1]; exact k.hwo hq hf
  · rw [(z 0 62 0 (by omega) rfl).2]; exact k.hn
  · rw [(z 3 62 5 (by omega) rfl).2]; exact k.hp
  · rw [(z 1 62 3 (by omega) rfl).2]; exact k.hC
  · rw [(z 2 62 4 (by omega) rfl).2]; exact k.hK
  · rw [(z _ 63 f (by omega) (cel_ac f (by omega)).1).2]; exact k.hac hf
  · rw [(z _ 68 f (by omega) (cel_ac f (by omega)).2).2]; exact k.how hf
  · rw [(z _ 64 (6 * a + b) (by omega) (cel_to _ (by omega))).2]; exact k.hto ha hb
  · rw [(z _ 65 q (by omega) (cel_co q (by omega)).1).2]; exact k.hco hq
  · rw [(z _ 66 q (by omega) (cel_co q (by omega)).2).2]; exact k.hki hq
  · rw [(z _ 67 (6 * q + f) (by omega) (cel_wo _ (by omega))).2]; exact k.hwo hq hf
theorem CY.giveb {c A μ m} (h : CY c false μ 76 m) (k : IR c A μ) (w : WF A) : MR A m ∧ IR c A m := by
  have hn := w.n6
  have hp := w.p3
  have z : ∀ i a j, i < 76 → cel i = (a, j) → m.1 a j = μ.1 c i ∧ m.1 c i = μ.1 c i := fun i a j hi e => by
    have := h.at hi e
    rw [if_neg (by decide)] at this; exact this
  obtain ⟨k1, k2, k3, k4, k5, k6, k7, k8, k9, k10⟩ := k
  refine ⟨⟨?_, ?_, ?_, ?_, fun f hf => ?_, fun f hf => ?_, fun a b ha hb => ?_, fun q hq => ?_, fun q hq => ?_, fun q f hq hf => ?_⟩, ⟨?_, ?_, ?_, ?_, fun f hf => ?_, fun f hf => ?_, fun a b ha hb => ?_, fun q hq => ?_, fun q hq => ?_, fun q f hq hf => ?_⟩⟩
  · rw [(z 0 62 0 (by omega) rfl).1]; exact k1
  · rw [(z 3 62 5 (by omega) rfl).1]; exact k2
  · rw [(z 1 62 3 (by omega) rfl).1]; exact k3
  · rw [(z 2 62 4 (by omega) rfl).1]; exact k4
  · rw [(z _ 63 f (by omega) (cel_ac f (by omega)).1).1]; exact k5 f hf
  · rw [(z _ 68 f (by omega) (cel_ac f (by omega)).2).1]; exact k6 f hf
  · rw [(z _ 64 (6 * a + b) (by omega) (cel_to _ (by omega))).1]; exact k7 a b ha hb
  · rw [(z _ 65 q (by omega) (cel_co q (by omega)).1).1]; exact k8 q hq
  · rw [(z _ 66 q (by omega) (cel_co q (by omega)).2).1]; exact k9 q hq
  · rw [(z _ 67 (6 * q + f) (by omega) (cel_wo _ (by omega))).1]; exact k10 q f hq hf
  · rw [(z 0 62 0 (by omega) rfl).2]; exact k1
  · rw [(z 3 62 5 (by omega) rfl).2]; exact k2
  · rw [(z 1 62 3 (by omega) rfl).2]; exact k3
  · rw [(z 2 62 4 (by omega) rfl).2]; exact k4
  · rw [(z _ 63 f (by omega) (cel_ac f (by omega)).1).2]; exact k5 f hf
  · rw [(z _ 68 f (by omega) (cel_ac f (by omega)).2).2]; exact k6 f hf
  · rw [(z _ 64 (6 * a + b) (by omega) (cel_to _ (by omega))).2]; exact k7 a b ha hb
  · rw [(z _ 65 q (by omega) (cel_co q (by omega)).1).2]; exact k8 q hq
  · rw [(z _ 66 q (by omega) (cel_co q (by omega)).2).2]; exact k9 q hq
  · rw [(z _ 67 (6 * q + f) (by omega) (cel_wo _ (by omega))).2]; exact k10 q f hq hf
theorem L_23 {μ : MI} (h : INV μ) : ∃ μ', Lc_23 μ = some μ' ∧ INV μ' := by
  obtain ⟨⟨A, w, co, k1, k2⟩, him, hsh⟩ := h
  obtain ⟨n1, e1, r1, g1⟩ := c_copyFrom (t := 15) (o := 1) k1 w (by omega)
  have f1 : ∀ a j, ¬ (15 ≤ a ∧ a ≤ 21) → n1.1 a j = μ.1 a j := g1.1
  obtain ⟨n2, e2, r2⟩ := m_carryTo (c := 83) true (si (si (si n1 0 3 (bI true)) 62 10 (nI 0)) 62 37 (bI true)) (by omega)
  have hm : MR A (si (si (si n1 0 3 (bI true)) 62 10 (nI 0)) 62 37 (bI true)) := by
    refine k2.fr ?_ ?_ ?_ ?_ (fun a h1 h2 => funext fun j => ?_)
    all_goals rw [si_v, if_neg (by omega), si_v, if_neg (by omega), si_v, if_neg (by omega), f1 _ _ (by omega)]
  obtain ⟨p1, p2⟩ := r2.take hm w
  have f2 : ∀ a j, a ≠ 83 → (a < 62 ∨ 68 < a) → n2.1 a j = (si n1 0 3 (bI true)).1 a j := fun a j h1 h2 => by
    rw [r2.out h1 (by omega), si_v, if_neg (by omega), si_v, if_neg (by omega)]
  have q1 : CR 1 A n2 := k1.fr fun a h1 h2 => funext fun j => by rw [f2 _ _ (by omega) (by omega), si_v, if_neg (by omega), f1 _ _ (by omega)]
  have pu : ∀ q, q < 3 → n2.1 65 q = μ.1 65 q ∧ n2.1 83 (52 + 2 * q) = μ.1 65 q := fun q hq => by
    have := r2.at (k := 52 + 2 * q) (by omega) (cel_co q hq).1
    rw [if_pos rfl, si_v, if_neg (by omega), si_v, if_neg (by omega), si_v, if_neg (by omega), f1 _ _ (by omega)] at this
    exact this
  refine ⟨n2, ?_, ⟨A, w, co, q1, p1⟩, ⟨⟨fun q hq => by rw [(pu q hq).1]; exact him.1.1 q hq, fun q hq => by rw [(pu q hq).2]; exact him.1.1 q hq⟩, Or.inr ⟨?_, ?_, A, w, co, r1.fr fun a h1 h2 => funext fun j => ?_, p2⟩⟩, fun d hd => (hsh d hd).fr (fun a h1 h2 => funext fun j => ?_) (fun a h1 h2 => ?_) (fun i hi => ?_)⟩
  · unfold Lc_23 N_image M_image
    have z1 : (si n1 0 3 (bI true)).1 1 0 = nI A.n := by rw [si_v, if_neg (by omega), f1 _ _ (by omega)]; exact k1.hn
    simp only [e1, Option.bind_some, stZ, z1, thr0, e2, p1.hn, if_true]
  · rw [f2 _ _ (by omega) (by omega), si_v, if_pos ⟨rfl, rfl⟩]
  · rw [r2.out (by omega) (by omega), si_v, if_pos ⟨rfl, rfl⟩]
  · rw [f2 _ _ (by omega) (by omega), si_v, if_neg (by omega)]
  · rw [f2 _ _ (by omega) (by omega), si_v, if_neg (by omega), f1 _ _ (by omega)]
  · rw [f2 _ _ (by omega) (by omega), si_v, if_neg (by omega), f1 _ _ (by omega)]
  · rw [r2.2.2.1, si_2, si_2, si_2, g1.2]
theorem L_24 {μ : MI} (h : INV μ) : ∃ μ', Lc_24 μ = some μ' ∧ INV μ' := by
  have g0 : INV (si μ 62 10 (nI 0)) := Lc_same h (ag_rf _ _) (ag_62 (by omega))
  obtain ⟨⟨A, w, co, k1, k2⟩, him, hsh⟩ := h
  obtain ⟨hpu, him⟩ := him
  rcases him with ⟨i1, i2⟩ | ⟨i1, i2, B, wB, cB, b1, b2⟩
  · refine ⟨si μ 62 10 (nI 0), ?_, g0⟩
    have z : (si μ 62 10 (nI 0)).1 62 37 = bI false := by rw [si_v, if_neg (by omega)]; exact i2
    unfold Lc_24 N_restore M_restore
    simp only [ldZ_b i1, Option.bind_some, thr0, ldZ_b z, Bool.false_eq_true, if_false, if_true]
  · obtain ⟨n1, e1, r1, g1⟩ := c_copyFrom (t := 1) (o := 15) b1 wB (by omega)
    have f1 : ∀ a j, ¬ (1 ≤ a ∧ a ≤ 7) → n1.1 a j = μ.1 a j := g1.1
    obtain ⟨n2, e2, r2⟩ := m_carryTo (c := 83) false (si n1 62 10 (nI 0)) (by omega)
    have hm : IR 83 B (si n1 62 10 (nI 0)) := b2.fr (funext fun j => by rw [si_v, if_neg (by omega), f1 _ _ (by omega)])
    obtain ⟨p1, p2⟩ := r2.giveb hm wB
    have f2 : ∀ a j, a ≠ 83 → (a < 62 ∨ 68 < a) → n2.1 a j = n1.1 a j := fun a j h1 h2 => by
      rw [r2.out h1 (by omega), si_v, if_neg (by omega)]
    have q1 : CR 1 B n2 := r1.fr fun a h1 h2 => funext fun j => by rw [f2 _ _ (by omega) (by omega)]
    have pu : ∀ q, q < 3 → n2.1 65 q = μ.1 83 (52 + 2 * q) ∧ n2.1 83 (52 + 2 * q) = μ.1 83 (52 + 2 * q) := fun q hq => by
      have := r2.at (k := 52 + 2 * q) (by omega) (cel_co q hq).1
      rw [if_neg (by decide), si_v, if_neg (by omega), f1 _ _ (by omega)] at this
      exact this
    refine ⟨n2, ?_, ⟨B, wB, cB, q1, p1⟩, ⟨⟨fun q hq => by rw [(pu q hq).1]; exact hpu.2 q hq, fun q hq => by rw [(pu q hq).2]; exact hpu.2 q hq⟩, Or.inr ⟨?_, ?_, B, wB, cB, b1.fr fun a h1 h2 => funext fun j => ?_, p2⟩⟩, fun d hd => (hsh d hd).fr (fun a h1 h2 => funext fun j => ?_) (fun a h1 h2 => ?_) (fun i hi => ?_)⟩
    · have z : (si n1 62 10 (nI 0)).1 62 37 = bI true := by rw [si_v, if_neg (by omega), f1 _ _ (by omega)]; exact i2
      unfold Lc_24 N_restore M_restore
      simp only [ldZ_b i1, Option.bind_some, e1, r1.hn, thr0, ldZ_b z, e2, p1.hn, if_true]
    · rw [f2 _ _ (by omega) (by omega), f1 _ _ (by omega)]; exact i1
    · rw [r2.out (by omega) (by omega), si_v, if_neg (by omega), f1 _ _ (by omega)]; exact i2
    · rw [f2 _ _ (by omega) (by omega), f1 _ _ (by omega)]
    · rw [f2 _ _ (by omega) (by omega), f1 _ _ (by omega)]
    · rw [f2 _ _ (by omega) (by omega), f1 _ _ (by omega)]
    · rw [r2.2.2.1, si_2, g1.2]
/-! ===== the easy ones whole ===== -/
theorem L_1 {μ : MI} (h : INV μ) (x y : Int32) : ∃ μ', Lc_1 x y μ = some μ' ∧ INV μ' := by
  obtain ⟨A, w, co, k1, k2⟩ := h.1
  obtain ⟨m, e, g⟩ := M_field_v k2 w x y
  refine ⟨m, ?_, Lc_same h (ag_rf _ _) g⟩
  unfold Lc_1
  simp only [N_field_v k1 w x y, Option.bind_some, e, if_true]
theorem L_2 {μ : MI} (h : INV μ) (x y : Int32) : ∃ μ', Lc_2 x y μ = some μ' ∧ INV μ' := by
  obtain ⟨A, w, co, k1, k2⟩ := h.1
  obtain ⟨m, e, g⟩ := M_touch_v k2 w x y
  refine ⟨m, ?_, Lc_same h (ag_rf _ _) g⟩
  unfold Lc_2
  simp only [N_touch_v k1 w x y, Option.bind_some, e, if_true]
theorem L_3 {μ : MI} (h : INV μ) (x y : Int32) : ∃ μ', Lc_3 x y μ = some μ' ∧ INV μ' := by
  obtain ⟨A, w, co, k1, k2⟩ := h.1
  obtain ⟨m, e, g⟩ := M_person_v k2 w x y
  refine ⟨m, ?_, Lc_same h (ag_rf _ _) g⟩
  unfold Lc_3
  simp only [N_person_v k1 w x y, Option.bind_some, e, if_true]
theorem L_4 {μ : MI} (h : INV μ) (x y : Int32) : ∃ μ', Lc_4 x y μ = some μ' ∧ INV μ' := by
  obtain ⟨A, w, co, k1, k2⟩ := h.1
  obtain ⟨m, e, g⟩ := M_worth_v k2 w x y
  refine ⟨m, ?_, Lc_same h (ag_rf _ _) g⟩
  unfold Lc_4
  simp only [N_worth_v k1 w x y, Option.bind_some, e, if_true]
theorem L_5 {μ : MI} (h : INV μ) (x y : Int32) : ∃ μ', Lc_5 x y μ = some μ' ∧ INV μ' := by
  obtain ⟨A, w, co, k1, k2⟩ := h.1
  obtain ⟨m1, e1, c1, g1⟩ := N_law_v k1 x y
  obtain ⟨m, e, c2, g⟩ := M_law_v (k2.agN g1) x y
  refine ⟨m, ?_, h.both g1 g (sLaw_wf w x y) (sLaw_co co x y) c1 c2⟩
  unfold Lc_5
  simp only [e1, Option.bind_some, e, if_true]
theorem L_6 {μ : MI} (h : INV μ) (x y : Int32) : ∃ μ', Lc_6 x y μ = some μ' ∧ INV μ' := by
  obtain ⟨A, w, co, k1, k2⟩ := h.1
  obtain ⟨m1, e1, c1, g1⟩ := N_owns_v k1 w x y
  obtain ⟨m, e, c2, g⟩ := M_owns_v (k2.agN g1) w x y
  refine ⟨m, ?_, h.both g1 g (sOwns_wf w x y) (sOwns_co co x y) c1 c2⟩
  unfold Lc_6
  simp only [e1, Option.bind_some, e, if_true]
theorem L_7 {μ : MI} (h : INV μ) : ∃ μ', Lc_7 μ = some μ' ∧ INV μ' := by
  obtain ⟨A, w, co, k1, k2⟩ := h.1
  obtain ⟨m, e, g⟩ := M_lawful_v k2 w
  refine ⟨m, ?_, Lc_same h (ag_rf _ _) g⟩
  unfold Lc_7
  simp only [N_lawful_v k1 w, Option.bind_some, e, if_true]
theorem L_8 {μ : MI} (h : INV μ) : ∃ μ', Lc_8 μ = some μ' ∧ INV μ' := by
  obtain ⟨A, w, co, k1, k2⟩ := h.1
  obtain ⟨m, e, g⟩ := M_firstUnlawful_v k2 w
  refine ⟨m, ?_, Lc_same h (ag_rf _ _) g⟩
  unfold Lc_8
  simp only [N_firstUnlawful_v k1 w, Option.bind_some, e, if_true]
theorem L_25 {μ : MI} (h : INV μ) (x : Int32) : ∃ μ', Lc_25 x μ = some μ' ∧ INV μ' := by
  obtain ⟨A, w, co, k1, k2⟩ := h.1
  obtain ⟨m, e, g⟩ := M_count_v k2 w x
  refine ⟨m, ?_, Lc_same h (ag_rf _ _) g⟩
  unfold Lc_25
  simp only [N_count_v k1 w x, Option.bind_some, e, if_true]
