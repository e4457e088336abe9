theorem c_search {A : LV} {μ : MI} {t : Nat} (h : CR t A μ) (w : WF A) (ht : t + 6 < 24) (mu : Bool) : ∃ μ', Sharing_search t mu μ = some μ' ∧ SS A (mxx (bO A mu) (bV A) ((A.p + 1) ^ A.n)) μ' ∧ ag (fun a _ => 24 ≤ a ∧ a ≤ 27) μ μ' := by
  have hn := w.n6
  have hp := w.p3
  unfold Sharing_search
  have s7 : stA 7 (si (si μ 24 1 (bI mu)) 24 0 (-1)) 27 6 0 = some (si (si (si μ 24 1 (bI mu)) 24 0 (-1)) 27 6 (nI 0)) := stA_n (i := 6) (by omega) (by omega)
  simp only [stZ, stF, Option.bind_some]
  rw [s7]
  simp only [Option.bind_some]
  have a0 : ag (fun a _ => 24 ≤ a ∧ a ≤ 27) μ (si (si (si μ 24 1 (bI mu)) 24 0 (-1)) 27 6 (nI 0)) := ag_st (ag_st (ag_si (by omega)) (by omega)) (by omega)
  obtain ⟨m1, q1, q2, q3, q4, q5⟩ := lp_inv (step := Sharing_search_s1 t) (s := (5, si (si (si μ 24 1 (bI mu)) 24 0 (-1)) 27 6 (nI 0))) (fun j s => s.1 = iI (5 - (j : Int)) ∧ ag (fun a _ => 24 ≤ a ∧ a ≤ 27) μ s.2 ∧ s.2.1 24 1 = bI mu ∧ s.2.1 24 0 = -1 ∧ ∀ f, 6 - j ≤ f → f ≤ 6 → s.2.1 27 f = nI (wfr A (6 - f))) (fun m => ag (fun a _ => 24 ≤ a ∧ a ≤ 27) μ m ∧ m.1 24 1 = bI mu ∧ m.1 24 0 = -1 ∧ ∀ f, f ≤ 6 → m.1 27 f = nI (wfr A (6 - f))) 6 (by omega) ⟨rfl, a0, by rw [si_v, if_neg (by omega), si_v, if_neg (by omega), si_v, if_pos ⟨rfl, rfl⟩], by rw [si_v, if_neg (by omega), si_v, if_pos ⟨rfl, rfl⟩], fun f h1 h2 => by
      have : f = 6 := by omega
      subst this
      rw [si_v, if_pos ⟨rfl, rfl⟩]; rfl⟩ (by
      rintro j ⟨i, m⟩ hj ⟨t1, t2, t3, t4, t5⟩
      simp only at t1 t2 t3 t4 t5; subst t1
      refine Or.inl ?_
      have ei : iI (5 - (j : Int)) = nI (5 - j) := by rw [← iI_nat]; congr 1; omega
      have hm : CR t A m := h.tg t2 (fun a j z1 z2 z3 => by omega)
      have nx : iI (5 - (j : Int)) + -1 = iI (5 - ((j + 1 : Nat) : Int)) := by
        rw [show (-1 : Int32) = iI (-1) from rfl, iI_add]; congr 1; omega
      have gv := c_greatestWorth hm w (f := 5 - j) (by omega)
      have e1 : m.1 27 (5 - j + 1) = nI (wfr A j) := by
        rw [t5 _ (by omega) (by omega)]; congr 2; omega
      refine ⟨(iI (5 - ((j + 1 : Nat) : Int)), si m 27 (5 - j) (nI (wfr A (j + 1)))), ?_, rfl, ag_st t2 (by omega), ?_, ?_, fun f h1 h2 => ?_⟩
      · unfold Sharing_search_s1
        simp only []
        rw [if_pos (show (0 : Int32) ≤ iI (5 - (j : Int)) from by rw [iI_ge0 (by omega) (by omega)]; omega), nx, ei, li_1, nI_add, ldA_n (by omega) (by omega), e1, gv]
        simp only [Option.bind_some]
        rw [nI_add, stA_n (by omega) (by omega)]
        rfl
      · rw [si_ne (by omega)]; exact t3
      · rw [si_ne (by omega)]; exact t4
      · rw [si_at]
        by_cases e : f = 5 - j
        · rw [if_pos e, e]; congr 2; omega
        · rw [if_neg e]; exact t5 f (by omega) h2) (by
      rintro ⟨i, m⟩ ⟨t1, t2, t3, t4, t5⟩
      simp only at t1 t2 t3 t4 t5; subst t1
      refine ⟨m, ?_, t2, t3, t4, fun f hf => t5 f (by omega) hf⟩
      unfold Sharing_search_s1
      simp only []
      rw [if_neg (show ¬ (0 : Int32) ≤ iI (5 - ((6 : Nat) : Int)) from by rw [iI_ge0 (by omega) (by omega)]; omega)])
  rw [q1]
  simp only [Option.bind_some]
  have hm : CR t A m1 := h.tg q2 (fun a j z1 z2 z3 => by omega)
  obtain ⟨m2, e1, e2, e3, e4⟩ := c_try w ht mu A.n 20 0 0 0 m1 (by omega) (by omega) ⟨hm, q3, q5⟩ (fun g hg => absurd hg (Nat.not_lt_zero _)) (fun a b ha => absurd ha (Nat.not_lt_zero _)) (fun _ g hg => absurd hg (Nat.not_lt_zero _)) rfl ⟨by rw [Nat.zero_mul]; exact q4, fun j hj => by rw [Nat.zero_mul] at hj; cases hj⟩
  rw [show (nI 0 : Int32) = 0 from rfl] at e1
  rw [e1]
  rw [Nat.zero_add, Nat.one_mul] at e2
  exact ⟨m2, rfl, e2, ag_tr q2 (ag_mo e3 (fun a j q => by unfold pT at q; omega))⟩
/-- the reference's best -/
def MS (A : LV) (o : Option Nat) (μ : MI) : Prop := μ.1 62 29 = o.elim (-1) (fun j => nI j) ∧ μ.1 62 30 = o.elim (-1) (fun j => nI (bV A j))
def pB (a j : Nat) : Prop := a = 69 ∨ a = 76 ∨ (a = 62 ∧ (j = 29 ∨ j = 30))
theorem pB_M {a j : Nat} (h : pB a j) : pM a j := by unfold pB at h; unfold pM; omega
theorem p4096 {A : LV} (w : WF A) : (A.p + 1) ^ A.n ≤ 4096 := by
  have hn := w.n6
  have hp := w.p3
  have h1 : (A.p + 1) ^ A.n ≤ 4 ^ A.n := Nat.pow_le_pow_left (by omega) _
  have h2 : 4 ^ A.n ≤ 4 ^ 6 := Nat.pow_le_pow_right (by decide) hn
  omega
theorem m_fb2 {A : LV} {μ : MI} (h : MR A μ) (w : WF A) (mu : Bool) {d : Nat → Nat} (hd : DG A d μ) (hl : ∀ g, g < A.n → d g ≤ A.p) : ∃ m, lp (M_findBest_s2 mu) FUEL (true, 0, μ) = some ((!mu || al (fun f => decide (A.ow f = 0) || decide (A.ow f = d f)) A.n), m) ∧ OW A d m ∧ ag (fun a _ => a = 69) μ m := by
  have hn := w.n6
  have hp := w.p3
  obtain ⟨o, q1, q2, q3, q4⟩ := lp_inv (step := M_findBest_s2 mu) (s := (true, 0, μ)) (fun k s => s.1 = (!mu || al (fun f => decide (A.ow f = 0) || decide (A.ow f = d f)) k) ∧ s.2.1 = nI k ∧ (∀ f, f < k → s.2.2.1 69 f = nI (d f)) ∧ ag (fun a _ => a = 69) μ s.2.2) (fun o => o.1 = (!mu || al (fun f => decide (A.ow f = 0) || decide (A.ow f = d f)) A.n) ∧ (∀ f, f < A.n → o.2.1 69 f = nI (d f)) ∧ ag (fun a _ => a = 69) μ o.2) A.n (by omega) ⟨by simp [al], rfl, fun f hf => absurd hf (Nat.not_lt_zero _), ag_rf _ _⟩ (by
      rintro k ⟨c, i, m⟩ hk ⟨t1, t2, t3, t4⟩
      simp only at t1 t2 t3 t4; subst t2; subst t1
      refine Or.inl ?_
      have hm : MR A m := h.tg t4 (fun a j e => Or.inl (Or.inr (Or.inl (by omega))))
      have dk : m.1 76 k = nI (d k) := (t4.1 _ _ (by omega)).trans (hd k hk)
      have o1 := w.owl hk
      have l1 := hl k hk
      refine ⟨(!mu || al (fun f => decide (A.ow f = 0) || decide (A.ow f = d f)) (k + 1), nI (k + 1), si m 69 k (nI (d k))), ?_, rfl, rfl, fun f hf => ?_, ag_st t4 rfl⟩
      · have s68 : (si m 69 k (nI (d k))).1 68 k = nI (A.ow k) := by rw [si_v, if_neg (by omega)]; exact hm.how hk
        have s76 : (si m 69 k (nI (d k))).1 76 k = nI (d k) := by rw [si_v, if_neg (by omega)]; exact dk
        simp only [M_findBest_s2, hm.hn, if_pos (nI_lt hk (show A.n < 2 ^ 31 by omega)), ldA_n (show k < 6 by omega) (show 6 ≤ 5000 by omega), dk, Option.bind_some, stA_n (show k < 6 by omega) (show 6 ≤ 5000 by omega), s68, s76, li_0, li_1, nI_add, nI_eq (show A.ow k < 2 ^ 31 by omega) (show 0 < 2 ^ 31 by omega), nI_eq (show A.ow k < 2 ^ 31 by omega) (show d k < 2 ^ 31 by omega), al]
        cases mu
        · simp
        · cases al (fun f => decide (A.ow f = 0) || decide (A.ow f = d f)) k
          · simp
          · by_cases g : A.ow k = 0 <;> simp [g]
      · rw [si_at]
        by_cases e : f = k
        · rw [if_pos e, e]
        · rw [if_neg e]; exact t3 f (by omega)) (by
      rintro ⟨c, i, m⟩ ⟨t1, t2, t3, t4⟩
      simp only at t1 t2 t3 t4; subst t2; subst t1
      have hm : MR A m := h.tg t4 (fun a j e => Or.inl (Or.inr (Or.inl (by omega))))
      refine ⟨((!mu || al (fun f => decide (A.ow f = 0) || decide (A.ow f = d f)) A.n), m), ?_, rfl, t3, t4⟩
      simp only [M_findBest_s2, hm.hn, if_neg (nI_nlt (Nat.le_refl A.n) (show A.n < 2 ^ 31 by omega))])
  obtain ⟨c, m⟩ := o
  simp only at q2 q3 q4
  subst q2
  exact ⟨m, q1, ⟨q3, hl⟩, q4⟩
theorem m_findBest {A : LV} {μ : MI} (h : MR A μ) (w : WF A) (mu : Bool) : ∃ m, M_findBest mu μ = some m ∧ MS A (mxx (bO A mu) (bV A) ((A.p + 1) ^ A.n)) m ∧ ag pB μ m := by
  have hn := w.n6
  have hp := w.p3
  have p4 := p4096 w
  unfold M_findBest
  have a0 : ag pB μ (si (si μ 62 29 (-1)) 62 30 (-1)) := ag_st (ag_si (Or.inr (Or.inr (by omega)))) (Or.inr (Or.inr (by omega)))
  have nr : (si (si μ 62 29 (-1)) 62 30 (-1)).1 62 0 = nI A.n := by rw [si_v, if_neg (by omega), si_v, if_neg (by omega)]; exact h.hn
  have pr : (si (si μ 62 29 (-1)) 62 30 (-1)).1 62 5 = nI A.p := by rw [si_v, if_neg (by omega), si_v, if_neg (by omega)]; exact h.hp
  simp only [stF, Option.bind_some, nr, pr]
  rw [show nI A.p + 1 = nI (A.p + 1) from by rw [li_1, nI_add], m_power A.n hn]
  simp only [Option.bind_some]
  obtain ⟨m, q1, q2, q3⟩ := lp_m (step := M_findBest_s1 (nI ((A.p + 1) ^ A.n)) mu) (fun k s => MS A (mxx (bO A mu) (bV A) k) s ∧ ag pB μ s) ((A.p + 1) ^ A.n) (by omega) (μ := si (si μ 62 29 (-1)) 62 30 (-1)) ⟨⟨by rw [si_v, if_neg (by omega), si_v, if_pos ⟨rfl, rfl⟩]; rfl, by rw [si_v, if_pos ⟨rfl, rfl⟩]; rfl⟩, a0⟩ (fun k s hk ⟨s1, s2⟩ => by
    have hs : MR A s := h.tg s2 (fun a j q => Or.inl (pB_M q))
    obtain ⟨u, u1, u2, u3⟩ := m_spread hs w (P := A.p + 1) (m := k) (by omega) (by omega) (by omega)
    have hu : MR A u := hs.tg u3 (fun a j e => Or.inl (Or.inr (Or.inl (by omega))))
    obtain ⟨v, v1, v2, v3⟩ := m_fb2 hu w mu u2 (fun g _ => pfx_p _ _ _)
    have hv : MR A v := hu.tg v3 (fun a j e => Or.inl (Or.inr (Or.inl (by omega))))
    have g2 : ag pB s v := ag_tr (ag_mo u3 (fun a j q => Or.inr (Or.inl q))) (ag_mo v3 (fun a j q => Or.inl q))
    have e29 : v.1 62 29 = s.1 62 29 := by rw [v3.1 _ _ (by omega), u3.1 _ _ (by omega)]
    have e30 : v.1 62 30 = s.1 62 30 := by rw [v3.1 _ _ (by omega), u3.1 _ _ (by omega)]
    have wall : sm (wow A (pfx (A.p + 1) A.n k)) A.p = bV A k := wow_all v2.2
    have v594 : bV A k ≤ 594 := vv_lt w (fun g _ => pfx_p _ _ _)
    have em : mxx (bO A mu) (bV A) (k + 1) = if (bO A mu k && (mxx (bO A mu) (bV A) k).elim true (fun j => decide (bV A j < bV A k))) = true then some k else mxx (bO A mu) (bV A) k := rfl
    have cv : ((if (!mu || al (fun f => decide (A.ow f = 0) || decide (A.ow f = pfx (A.p + 1) A.n k f)) A.n) = true then (some (lw A (pfx (A.p + 1) A.n k)) : Option Bool).bind fun b87 => if b87 = true then (some (nI (bV A k)) : Option Int32).bind fun r91 => some (decide (v.1 62 30 < r91)) else some false else some false) : Option Bool) = some (bO A mu k && (mxx (bO A mu) (bV A) k).elim true (fun j => decide (bV A j < bV A k))) := by
      have lt : decide (v.1 62 30 < nI (bV A k)) = (mxx (bO A mu) (bV A) k).elim true (fun j => decide (bV A j < bV A k)) := by
        rw [e30, s1.2]
        rcases mxx (bO A mu) (bV A) k with _ | j
        · apply decide_eq_true
          show (-1 : Int32) < nI (bV A k)
          rw [Int32.lt_iff_toInt_lt, nI_toInt (by omega), show (-1 : Int32).toInt = -1 from by decide]
          omega
        · have v2 : bV A j ≤ 594 := vv_lt w (fun g _ => pfx_p _ _ _)
          apply decide_eq_decide.mpr
          show nI (bV A j) < nI (bV A k) ↔ _
          rw [nI_ltI (by omega) (by omega)]
      simp only [Option.bind_some, lt]
      unfold bO vB
      cases lw A (pfx (A.p + 1) A.n k) <;> cases (!mu || al (fun f => decide (A.ow f = 0) || decide (A.ow f = pfx (A.p + 1) A.n k f)) A.n) <;> simp
    have pr : s.1 62 5 = nI A.p := hs.hp
    unfold M_findBest_s1
    simp only []
    rw [if_pos (nI_lt hk (by omega)), pr, show nI A.p + 1 = nI (A.p + 1) from by rw [li_1, nI_add], u1]
    simp only [Option.bind_some, v1, m_isFine hv w v2, m_worthOfAll hv w v2, wall]
    simp only [Option.bind_some] at cv
    rw [cv, em]
    cases hc : (bO A mu k && (mxx (bO A mu) (bV A) k).elim true (fun j => decide (bV A j < bV A k)))
    · refine ⟨v, ?_, ⟨?_, ?_⟩, ag_tr s2 g2⟩
      · simp only [Option.bind_some, Bool.false_eq_true, if_false, li_1, nI_add]
      · rw [e29]; exact s1.1
      · rw [e30]; exact s1.2
    · have hv2 : MR A (si v 62 29 (nI k)) := hv.sx (Or.inl (Or.inl (by omega)))
      have ow2 : OW A (pfx (A.p + 1) A.n k) (si v 62 29 (nI k)) := ⟨fun f hf => by rw [si_ne (by omega)]; exact v2.1 f hf, v2.2⟩
      refine ⟨si (si v 62 29 (nI k)) 62 30 (nI (bV A k)), ?_, ⟨?_, ?_⟩, ag_st (ag_st (ag_tr s2 g2) (Or.inr (Or.inr (by omega)))) (Or.inr (Or.inr (by omega)))⟩
      · simp only [Option.bind_some, if_true, stF, m_worthOfAll hv2 w ow2, wall, li_1, nI_add]
      · rw [if_pos rfl, si_v, if_neg (by omega), si_v, if_pos ⟨rfl, rfl⟩]; rfl
      · rw [if_pos rfl, si_v, if_pos ⟨rfl, rfl⟩]; rfl) (fun s ⟨s1, s2⟩ => by
    simp only [M_findBest_s1, if_neg (nI_nlt (Nat.le_refl ((A.p + 1) ^ A.n)) (show (A.p + 1) ^ A.n < 2 ^ 31 by omega))])
  rw [q1]
  exact ⟨m, rfl, q2, q3⟩
theorem bO_0 {A : LV} : bO A false 0 = true := by
  refine vB_iff.mpr ⟨fun a b ha hb => ?_, fun e => by cases e⟩
  have : pfx (A.p + 1) A.n 0 a = 0 := by unfold pfx; rw [Nat.zero_div, Nat.zero_mod]
  unfold bad
  rw [this, one_0, Bool.and_false]
theorem best_ex {A : LV} : ∃ j, mxx (bO A false) (bV A) ((A.p + 1) ^ A.n) = some j := by
  have hp : 0 < (A.p + 1) ^ A.n := Nat.pow_pos (by omega)
  rcases hm : mxx (bO A false) (bV A) ((A.p + 1) ^ A.n) with _ | j
  · have := mxx_none hm 0 hp
    rw [bO_0] at this; cases this
  · exact ⟨j, rfl⟩
theorem must_ex {A : LV} (w : WF A) (h : lw A A.ow = true) : ∃ j, mxx (bO A true) (bV A) ((A.p + 1) ^ A.n) = some j := by
  have hd : ∀ g, g < A.n → A.ow g < A.p + 1 := fun g hg => by have := w.owl hg; omega
  rcases hm : mxx (bO A true) (bV A) ((A.p + 1) ^ A.n) with _ | j
  · have := mxx_none hm (enc (A.p + 1) A.ow A.n) (enc_lt hd)
    have ok : bO A true (enc (A.p + 1) A.ow A.n) = true := by
      refine vB_iff.mpr ⟨fun a b ha hb => ?_, fun _ f hf => Or.inr (enc_pfx hd f hf).symm⟩
      have := lw_pre.mp h a b ha hb
      unfold bad at this ⊢
      rw [enc_pfx hd a ha, enc_pfx hd b (by omega)]; exact this
    rw [ok] at this; cases this
  · exact ⟨j, rfl⟩
theorem must_no {A : LV} (w : WF A) (h : lw A A.ow = false) : mxx (bO A true) (bV A) ((A.p + 1) ^ A.n) = none := by
  rcases hm : mxx (bO A true) (bV A) ((A.p + 1) ^ A.n) with _ | j
  · rfl
  · exfalso
    have ok := (mxx_some hm).2
    obtain ⟨v1, v2⟩ := vB_iff.mp ok
    have : lw A A.ow = true := by
      rw [lw_pre]
      intro a b ha hb
      have q := v1 a b ha hb
      unfold bad at q ⊢
      rcases v2 rfl a ha with z | z
      · rw [z, one_0, Bool.and_false]
      · rcases v2 rfl b (by omega) with y | y
        · rw [y, one_0r, Bool.and_false]
        · rw [z, y]; exact q
    rw [this] at h; cases h
def sBest (A : LV) (j : Nat) (x : Int32) : Int32 := if x = -1 then nI (bV A j) else if inR x A.n = true then oN (pfx (A.p + 1) A.n j x.toNatClampNeg) else -1
theorem c_told {A : LV} {m : MI} (w : WF A) {j : Nat} (hs : SS A (some j) m) {x : Int32} (hx : x = -1 ∨ inR x A.n = true) : ((if x = -1 then some (m.1 24 0) else ((Sharing_ownerFound x m).bind fun r19 => (N_orNone r19).bind fun r22 => some r22)) : Option Int32) = some (sBest A j x) := by
  have hn := w.n6
  have hp := w.p3
  unfold sBest
  by_cases g : x = -1
  · rw [if_pos g, if_pos g, hs.1]; rfl
  · rw [if_neg g, if_neg g]
    have hx : inR x A.n = true := by
      rcases hx with q | q
      · exact absurd q g
      · exact q
    rw [if_pos hx]
    obtain ⟨f, hf, rfl⟩ := inR_t hx
    have := pfx_p (A := A) A.n j f
    unfold Sharing_ownerFound
    rw [if_pos (nI_pos' (by omega)), li_6, decide_eq_true (nI_lt (show f < 6 by omega) (by omega))]
    simp only [Option.bind_some, if_true, ldA_n (show f < 6 by omega) (show 6 ≤ 5000 by omega), hs.2 j rfl f hf, orNone_v (show pfx (A.p + 1) A.n j f ≤ 3 by omega), nI_clamp (show f < 2 ^ 31 by omega)]
theorem m_told {A : LV} {m : MI} (h : MR A m) (w : WF A) {j : Nat} (hj : j < (A.p + 1) ^ A.n) (hs : MS A (some j) m) {x : Int32} (hx : x = -1 ∨ inR x A.n = true) : ∃ m', M_bestTold x m = some (sBest A j x, m') ∧ ag pM m m' := by
  have hn := w.n6
  have hp := w.p3
  have p4 := p4096 w
  unfold sBest M_bestTold
  by_cases g : x = -1
  · refine ⟨m, ?_, ag_rf _ _⟩
    rw [if_pos (show x < 0 from by rw [g]; decide), if_pos g, hs.2]; rfl
  · rw [if_neg g]
    have hx : inR x A.n = true := by
      rcases hx with q | q
      · exact absurd q g
      · exact q
    rw [if_pos hx]
    obtain ⟨f, hf, rfl⟩ := inR_t hx
    have := pfx_p (A := A) A.n j f
    have e29 : m.1 62 29 = nI j := hs.1
    obtain ⟨u, u1, u2, u3⟩ := m_spread h w (P := A.p + 1) (m := j) (by omega) (by omega) (by omega)
    refine ⟨u, ?_, ag_mo u3 (fun a j e => Or.inr (Or.inl (by omega)))⟩
    rw [if_neg (nI_pos (by omega)), e29, h.hp, show nI A.p + 1 = nI (A.p + 1) from by rw [li_1, nI_add], u1]
    have ow := ownO (o := pfx (A.p + 1) A.n j f) (by omega) 0
    simp only [Option.bind_some, ldA_n (show f < 6 by omega) (show 6 ≤ 5000 by omega), u2 f hf, li_0, li_1, ow, nI_clamp (show f < 2 ^ 31 by omega)]
theorem fld_ref {x : Int32} {n : Nat} (b : Bool) (hb : b = inR x n) : (if x ≠ -1 then (some b : Option Bool).bind fun b26 => some (!b26) else some false) = some (!(decide (x = -1) || inR x n)) := by
  subst hb
  by_cases g : x = -1 <;> simp [g]
theorem L_14 {μ : MI} (h : INV μ) (x : Int32) : ∃ μ', Lc_14 x μ = some μ' ∧ INV μ' := by
  have g0 : INV (si μ 62 10 (nI 0)) := Lc_same h (ag_rf _ _) (ag_62 (by omega))
  obtain ⟨A, w, co, k1, k2⟩ := h.1
  have both : ∃ r μ1 μ2, N_best x μ = some (r, μ1) ∧ M_best x μ1 = some (r, μ2) ∧ INV μ2 := by
    cases hx : (decide (x = -1) || inR x A.n)
    · refine ⟨-1, μ, si μ 62 10 (nI 0), ?_, ?_, g0⟩
      · unfold N_best
        rw [c_isField k1 w, fld_ref _ rfl, hx]; rfl
      · unfold M_best
        have k2' : MR A (si μ 62 10 (nI 0)) := k2.agM (ag_62 (by omega))
        rw [thr0]
        simp only [Option.bind_some]
        rw [m_isField k2' w, fld_ref _ rfl, hx]; rfl
    · have hx' : x = -1 ∨ inR x A.n = true := by
        rw [Bool.or_eq_true, decide_eq_true_eq] at hx; exact hx
      obtain ⟨j, hj⟩ := best_ex (A := A)
      obtain ⟨m1, e1, e2, e3⟩ := c_search k1 w (by omega) false
      have gC : ag pC μ m1 := ag_mo e3 (fun a j q => Or.inr (by omega))
      have k2' : MR A (si m1 62 10 (nI 0)) := (k2.agC gC).agM (ag_62 (by omega))
      obtain ⟨m2, f1, f2, f3⟩ := m_findBest k2' w false
      have k3 : MR A m2 := k2'.tg f3 (fun a j q => Or.inl (pB_M q))
      rw [hj] at e2 f2
      obtain ⟨m3, t1, t2⟩ := m_told k3 w (mxx_some hj).1 f2 hx'
      refine ⟨sBest A j x, m1, m3, ?_, ?_, Lc_same h gC (ag_tr (ag_tr (ag_62 (by omega)) (ag_mo f3 (fun a j q => pB_M q))) t2)⟩
      · unfold N_best
        rw [c_isField k1 w, fld_ref _ rfl, hx]
        simp only [Bool.not_true, Option.bind_some, Bool.false_eq_true, if_false, e1]
        rw [c_told w e2 hx']; rfl
      · unfold M_best
        rw [thr0]
        simp only [Option.bind_some]
        rw [m_isField k2' w, fld_ref _ rfl, hx]
        simp only [Bool.not_true, Option.bind_some, Bool.false_eq_true, if_false, f1, t1]
  obtain ⟨r, μ1, μ2, h1, h2, h3⟩ := both
  refine ⟨μ2, ?_, h3⟩
  unfold Lc_14
  simp only [h1, Option.bind_some, h2, if_true]
theorem L_15 {μ : MI} (h : INV μ) (x : Int32) : ∃ μ', Lc_15 x μ = some μ' ∧ INV μ' := by
  have g0 : INV (si μ 62 10 (nI 0)) := Lc_same h (ag_rf _ _) (ag_62 (by omega))
  obtain ⟨A, w, co, k1, k2⟩ := h.1
  have p4 := p4096 w
  have both : ∃ r μ1 μ2, N_withMusts x μ = some (r, μ1) ∧ M_withMusts x μ1 = some (r, μ2) ∧ INV μ2 := by
    cases hx : (decide (x = -1) || inR x A.n)
    · refine ⟨-1, μ, si μ 62 10 (nI 0), ?_, ?_, g0⟩
      · unfold N_withMusts
        rw [c_isField k1 w, fld_ref _ rfl, hx]; rfl
      · unfold M_withMusts
        have k2' : MR A (si μ 62 10 (nI 0)) := k2.agM (ag_62 (by omega))
        rw [thr0]
        simp only [Option.bind_some]
        rw [m_isField k2' w, fld_ref _ rfl, hx]; rfl
    · have hx' : x = -1 ∨ inR x A.n = true := by
        rw [Bool.or_eq_true, decide_eq_true_eq] at hx; exact hx
      cases hl : lw A A.ow
      · have k2' : MR A (si μ 62 10 (nI 0)) := k2.agM (ag_62 (by omega))
        obtain ⟨m2, f1, f2, f3⟩ := m_findBest k2' w true
        rw [must_no w hl] at f2
        refine ⟨-4, μ, m2, ?_, ?_, Lc_same h (ag_rf _ _) (ag_tr (ag_62 (by omega)) (ag_mo f3 (fun a j q => pB_M q)))⟩
        · unfold N_withMusts
          rw [c_isField k1 w, fld_ref _ rfl, hx, c_isLawful k1 w, hl]; rfl
        · have e29 : m2.1 62 29 = -1 := f2.1
          unfold M_withMusts
          rw [thr0]
          simp only [Option.bind_some]
          rw [m_isField k2' w, fld_ref _ rfl, hx]
          simp only [Bool.not_true, Option.bind_some, Bool.false_eq_true, if_false, f1, e29, show ((-1 : Int32) < 0) = True from by decide, if_true]
      · obtain ⟨j, hj⟩ := must_ex w hl
        obtain ⟨m1, e1, e2, e3⟩ := c_search k1 w (by omega) true
        have gC : ag pC μ m1 := ag_mo e3 (fun a j q => Or.inr (by omega))
        have k2' : MR A (si m1 62 10 (nI 0)) := (k2.agC gC).agM (ag_62 (by omega))
        obtain ⟨m2, f1, f2, f3⟩ := m_findBest k2' w true
        have k3 : MR A m2 := k2'.tg f3 (fun a j q => Or.inl (pB_M q))
        rw [hj] at e2 f2
        have j1 := (mxx_some hj).1
        obtain ⟨m3, t1, t2⟩ := m_told k3 w j1 f2 hx'
        refine ⟨sBest A j x, m1, m3, ?_, ?_, Lc_same h gC (ag_tr (ag_tr (ag_62 (by omega)) (ag_mo f3 (fun a j q => pB_M q))) t2)⟩
        · unfold N_withMusts
          rw [c_isField k1 w, fld_ref _ rfl, hx, c_isLawful k1 w, hl]
          simp only [Bool.not_true, Option.bind_some, Bool.false_eq_true, if_false, if_true, e1]
          rw [c_told w e2 hx']; rfl
        · have e29 : m2.1 62 29 = nI j := f2.1
          unfold M_withMusts
          rw [thr0]
          simp only [Option.bind_some]
          rw [m_isField k2' w, fld_ref _ rfl, hx]
          simp only [Bool.not_true, Option.bind_some, Bool.false_eq_true, if_false, f1, e29, if_neg (nI_pos (show j < 2 ^ 31 by omega)), t1]
  obtain ⟨r, μ1, μ2, h1, h2, h3⟩ := both
  refine ⟨μ2, ?_, h3⟩
  unfold Lc_15
  simp only [h1, Option.bind_some, h2, if_true]
