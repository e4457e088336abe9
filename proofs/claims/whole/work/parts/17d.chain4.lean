/-! ===== chain: the class's answer ===== -/
theorem c_rings {A : LV} {s0 e : Nat → Nat} {μ : MI} (w : WF A) (oe : OKs A e) (hl : lw A e = true) (ne : s0 ≠ e) (h : ST A s0 e 0 1 (fun _ => s0) (fun _ => 0) μ) : ∃ r μ', ((lp (Changes_fewestBetween_s1 1 (nI (kd e A.n))) FUEL (0, 1, μ)).bind fun o31 => Sum.elim (fun x : Int32 × MI => (some ((-4), x.2) : Option (Int32 × MI))) (fun r88 => some r88) o31) = some (r, μ') ∧ SD (nbR A e) s0 e r ∧ ag pK μ μ' := by
  have re : RSs A s0 e e := fun f hf => Or.inr (Or.inr rfl)
  have k12 := kd_lt w.n6 (oe.l3 w)
  obtain ⟨o, a1, a2⟩ := lp_inv (step := Changes_fewestBetween_s1 1 (nI (kd e A.n))) (s := (nI 0, nI 1, μ)) (fun s t => ∃ k m q d, t.1 = nI k ∧ t.2.1 = nI (s + 1) ∧ ag pK μ t.2.2 ∧ ST A s0 e k m q d t.2.2 ∧ (∀ i, k ≤ i → i < m → d i = s) ∧ (∀ i, i < m → q i ≠ e) ∧ k ≤ m) (fun o => ∃ r μ', Sum.elim (fun x : Int32 × MI => (some ((-4), x.2) : Option (Int32 × MI))) (fun r88 => some r88) o = some (r, μ') ∧ SD (nbR A e) s0 e r ∧ ag pK μ μ') 728 (by omega) ⟨0, 1, fun _ => s0, fun _ => 0, rfl, rfl, ag_rf _ _, h, fun _ _ _ => rfl, fun _ _ => ne, by omega⟩ (by
      rintro s ⟨x, y, u⟩ hs ⟨k, m, q, d, t1, t2, t3, t4, t5, t6, t7⟩
      simp only at t1 t2 t3 t4; subst t1; subst t2
      have m7 := t4.bd w
      have c1 : nI (s + 1) < 729 := by rw [li_729]; exact nI_lt (by omega) (by omega)
      unfold Changes_fewestBetween_s1
      simp only []
      rw [if_pos c1, t4.2.1.2.2.1]
      by_cases km : k < m
      · rw [decide_eq_true (nI_lt km (by omega))]
        simp only [Option.bind_some, if_true]
        obtain ⟨u', n, r, c, b1, b2, b3, b4, b5, b6⟩ := c_ring w oe.1 t4 t7 (z := s + 1) (fun i h1 h2 => by rw [t5 i h1 h2])
        rw [b1]
        simp only [Option.bind_some]
        rw [c_isSeen k12]
        simp only [Option.bind_some]
        cases hn : sn u' (kd e A.n)
        · refine Or.inl ⟨(nI m, nI (s + 1 + 1), u'), ?_, m, n, r, c, rfl, rfl, ag_tr t3 b2, b3, b6, fun i hi z => ?_, b4⟩
          · simp only [Bool.false_eq_true, if_false, li_1, nI_add]
          · have := (b3.2.1.2.2.2.1 i hi).2.2
            rw [z, hn] at this; cases this
        · obtain ⟨i, i1, i2⟩ := b3.2.1.2.2.2.2 e oe hn hl
          refine Or.inr ⟨.inr (nI (s + 1), u'), by simp only [if_true], nI (s + 1), u', rfl, ?_, ag_tr t3 b2⟩
          have im : m ≤ i := by
            rcases Nat.lt_or_ge i m with z | z
            · rw [b5 i z] at i2
              exact absurd i2 (t6 i z)
            · exact z
          rw [← b6 i im i1]
          exact BI_yes b3.1 i1 i2
      · rw [decide_eq_false (nI_nlt (by omega) (by omega))]
        have : k = m := by omega
        subst this
        refine Or.inr ⟨.inl (nI k, u), by simp only [Option.bind_some, Bool.false_eq_true, if_false], -4, u, rfl, BI_no t4.1 t6, t3⟩) (by
      rintro ⟨x, y, u⟩ ⟨k, m, q, d, t1, t2, t3, t4, t5, t6, t7⟩
      simp only at t1 t2 t3 t4; subst t1; subst t2
      have m7 := t4.ne w oe re t6
      have km : k = m := by
        rcases Nat.lt_or_ge k m with z | z
        · have h1 := t5 k (Nat.le_refl _) z
          have h2 := t4.1.2.2.2.2.2.2.2 k z
          omega
        · omega
      subst km
      refine ⟨.inl (nI k, u), ?_, -4, u, rfl, BI_no t4.1 t6, t3⟩
      unfold Changes_fewestBetween_s1
      simp only []
      rw [if_neg (show ¬ nI (728 + 1) < 729 from by rw [li_729]; exact nI_nlt (by omega) (by omega))]
      simp only [Option.bind_some, Bool.false_eq_true, if_false])
  obtain ⟨r, μ', b1, b2, b3⟩ := a2
  have a1' : lp (Changes_fewestBetween_s1 1 (nI (kd e A.n))) FUEL (0, 1, μ) = some o := a1
  rw [a1']
  exact ⟨r, μ', b1, b2, b3⟩
def cut (n : Nat) (g : Nat → Nat) : Nat → Nat := fun f => if f < n then g f else 0
theorem cut_in {n : Nat} {g : Nat → Nat} {f : Nat} (h : f < n) : cut n g f = g f := if_pos h
theorem cut_ok {A : LV} {g : Nat → Nat} (h : ∀ f, f < A.n → g f ≤ A.p) : OKs A (cut A.n g) :=
  ⟨fun f hf => by rw [cut_in hf]; exact h f hf, fun f hf => if_neg (show ¬ f < A.n by omega)⟩
theorem kd_cg {g h : Nat → Nat} : ∀ {n : Nat}, (∀ f, f < n → g f = h f) → kd g n = kd h n
  | 0, _ => rfl
  | n + 1, q => by
    show kd g n ||| c3 (g n) * 2 ^ (2 * n) = kd h n ||| c3 (h n) * 2 ^ (2 * n)
    rw [kd_cg (fun f hf => q f (by omega)), q n (by omega)]
theorem Fr_lw {A : LV} {s0 e : Nat → Nat} : ∀ (j : Nat) (t : Nat → Nat), Fr (nbR A e) s0 j t → t = s0 ∨ lw A t = true
  | 0, _, h => Or.inl h
  | j + 1, t, h => by
    rcases h with h | ⟨s, _, ⟨_, _, _, _, _, hl⟩⟩
    · exact Fr_lw j t h
    · exact Or.inr hl
theorem sn_fl {μ : MI} {c : Nat} (hc : c < 4096) : sn (sa μ 31 (fl (μ.1 31) 128 0)) c = false := by
  unfold sn
  rw [sa_at]
  unfold fl
  rw [if_pos (show c / 32 < 128 by omega)]
  exact sb_0 _
theorem c_chBetween {A : LV} {g : Nat → Nat} {μ : MI} (h1 : CR 1 A μ) (h8 : CR 8 (A.so g) μ) (w : WF A) (hg : ∀ f, f < A.n → g f ≤ A.p) : ∃ r μ', Changes_fewestBetween 1 8 μ = some (r, μ') ∧ SD (nbR A (cut A.n g)) (cut A.n A.ow) (cut A.n g) r ∧ ag pC μ μ' := by
  have hn := w.n6
  have w8 : WF (A.so g) := w.so hg
  have oe : OKs A (cut A.n g) := cut_ok hg
  have os0 : OKs A (cut A.n A.ow) := cut_ok fun f hf => w.owl hf
  have k1 : Changes_codeOf 1 μ = some (nI (kd (cut A.n A.ow) A.n)) := by
    rw [c_codeOf h1 w, kd_cg (fun f hf => (cut_in hf).symm)]
  have k2 : Changes_codeOf 8 μ = some (nI (kd (cut A.n g) A.n)) := by
    rw [c_codeOf h8 w8]
    show some (nI (kd g A.n)) = _
    rw [kd_cg (fun f hf => (cut_in hf).symm)]
  have l1 := kd_lt hn (os0.l3 w)
  have l2 := kd_lt hn (oe.l3 w)
  unfold Changes_fewestBetween
  rw [k1, k2]
  simp only [Option.bind_some]
  by_cases ne : cut A.n A.ow = cut A.n g
  · rw [if_pos (by rw [ne])]
    exact ⟨0, μ, rfl, Or.inl ⟨0, rfl, ne.symm, fun i _ => Nat.zero_le _⟩, ag_rf _ _⟩
  · rw [if_neg (fun z => ne (kd_eq w os0 oe ((nI_eq (by omega) (by omega)).mp z)))]
    obtain ⟨m, b1, b2, b3⟩ := c_writeBars (c := 33) h1 w (by omega)
    have c1 : CR 1 A m := h1.tg b3 (fun a j z1 z2 z3 => by omega)
    rw [b1]
    simp only [Option.bind_some]
    rw [c_chLawful c1 w b2 oe.1]
    simp only [Option.bind_some]
    have g1 : ag pC μ m := ag_mo b3 (fun a j z => by unfold pC; omega)
    cases hl : lw A (cut A.n g)
    · refine ⟨-4, m, by simp only [Bool.false_eq_true, if_false], Or.inr ⟨rfl, fun j hj => ?_⟩, g1⟩
      rcases Fr_lw j _ hj with z | z
      · exact ne z.symm
      · rw [hl] at z; cases z
    · have gf : ag pC m (sa m 31 (fl (m.1 31) 128 0)) := ⟨fun a j z => by rw [sa_ne (by rintro rfl; exact z (by unfold pC; omega))], rfl⟩
      have gx : ∀ u : MI, ag pC m u → CR 1 A u := fun u q => c1.tg q (fun a j z1 z2 z3 => by unfold pC at z3; omega)
      have snz : ∀ c, c < 4096 → sn (si (sa m 31 (fl (m.1 31) 128 0)) 30 2 0) c = false := fun c hc => by
        have := sn_fl (μ := m) hc
        unfold sn at this ⊢
        rw [si_ne (by omega)]; exact this
      simp only [if_true, flA, Option.bind_some, stF]
      rw [c_markSeen l1]
      simp only [Option.bind_some]
      have n30 : (mkd (si (sa m 31 (fl (m.1 31) 128 0)) 30 2 0) (kd (cut A.n A.ow) A.n)).1 30 2 = nI 0 := by
        rw [(ag_mkd _ _).1 30 2 (by omega), si_at, if_pos rfl]; rfl
      rw [c_reach n30 (by omega)]
      simp only [Option.bind_some]
      generalize hu : si (si (mkd (si (sa m 31 (fl (m.1 31) 128 0)) 30 2 0) (kd (cut A.n A.ow) A.n)) 32 0 (nI (kd (cut A.n A.ow) A.n))) 30 2 (nI (0 + 1)) = u
      have gu' : ag pC m u := by
        rw [← hu]
        exact ag_st (ag_st (ag_tr (ag_st gf (by unfold pC; omega)) (ag_mo (ag_mkd _ _) (fun a j z => by unfold pC; omega))) (by unfold pC; omega)) (by unfold pC; omega)
      have snu : ∀ c, c < 4096 → sn u c = decide (c = kd (cut A.n A.ow) A.n) := fun c hc => by
        have := sn_mkd (μ := si (sa m 31 (fl (m.1 31) 128 0)) 30 2 0) (c := kd (cut A.n A.ow) A.n) (x := c)
        rw [snz c hc, Bool.false_or] at this
        rw [← this, ← hu]
        unfold sn
        rw [si_ne (by omega), si_ne (by omega)]
      have st : ST A (cut A.n A.ow) (cut A.n g) 0 1 (fun _ => cut A.n A.ow) (fun _ => 0) u := by
        refine ⟨BI_0 _ _, ⟨gx u gu', fun f hf => ?_, ?_, fun i hi => ⟨os0, ?_, ?_⟩, fun t ht z _ => ⟨0, by omega, ?_⟩⟩, fun i hi f hf => Or.inl rfl⟩
        · rw [← hu, si_ne (by omega), si_ne (by omega), (ag_mkd _ _).1 33 f (by omega), si_ne (by omega), sa_ne (by omega)]
          exact b2 f hf
        · rw [← hu, si_at, if_pos rfl]
        · rw [← hu, si_ne (by omega), si_at, if_pos (by omega)]
        · rw [snu _ l1, decide_eq_true rfl]
        · rw [snu _ (kd_lt hn (ht.l3 w)), decide_eq_true_eq] at z
          exact kd_eq w os0 ht z.symm
      obtain ⟨r, μ', v1, v2, v3⟩ := c_rings w oe hl ne st
      exact ⟨r, μ', v1, v2, ag_tr (ag_tr g1 gu') (ag_mo v3 (fun a j z => by unfold pK at z; unfold pC; omega))⟩
/-! the row's owners -/
def chOk (A : LV) (x : Nat → Int32) (z : Nat) : Bool := decide (z = A.n) && al (fun f => okO (x f) A.p) A.n
theorem N_chain_in {d z : Nat} {A : LV} {μ : MI} (hd : d < 8) (h : CR 1 A μ) (w : WF A) (hz : z ≤ 100) (e2 : μ.1 (38 + 3 * d) 2 = nI z) : ∃ r m, ((if μ.1 (38 + 3 * d) 2 ≠ μ.1 1 0 then (some ((-13), μ) : Option (Int32 × MI)) else ((Land_copyFrom 8 1 μ).bind fun m15 => (lp (N_chain_s1 (38 + 3 * d)) FUEL (0, m15)).bind fun o18 => Sum.elim (fun m24 => (Changes_fewestBetween 1 8 m24).bind fun x : Int32 × MI => some (x.1, x.2)) (fun r44 => some r44) o18))) = some (r, m) ∧ ag pC μ m ∧ (chOk A (μ.1 (38 + 3 * d + 2)) z = false → r = -13) ∧ (chOk A (μ.1 (38 + 3 * d + 2)) z = true → SD (nbR A (cut A.n (fun f => oc (μ.1 (38 + 3 * d + 2) f)))) (cut A.n A.ow) (cut A.n (fun f => oc (μ.1 (38 + 3 * d + 2) f))) r) := by
  have hn := w.n6
  have hp := w.p3
  rw [e2, h.hn]
  by_cases ez : z = A.n
  · rw [if_neg (by rw [ez]; exact fun q => q rfl)]
    obtain ⟨m0, c1, c2, c3⟩ := c_copyFrom (t := 8) (o := 1) h w (by omega)
    have g0 : ag pC μ m0 := ag_mo c3 (fun a j q => Or.inl q)
    rw [c1]
    simp only [Option.bind_some]
    obtain ⟨o, q1, q2⟩ := lp_inv (step := N_chain_s1 (38 + 3 * d)) (s := (nI 0, m0)) (fun k s => s.1 = nI k ∧ (∀ j, j < k → okO (μ.1 (38 + 3 * d + 2) j) A.p = true) ∧ CR 8 (A.so (fun f => if f < k then oc (μ.1 (38 + 3 * d + 2) f) else A.ow f)) s.2 ∧ ag pC μ s.2) (fun o => Sum.elim (fun m => (∀ j, j < A.n → okO (μ.1 (38 + 3 * d + 2) j) A.p = true) ∧ CR 8 (A.so (fun f => if f < A.n then oc (μ.1 (38 + 3 * d + 2) f) else A.ow f)) m ∧ ag pC μ m) (fun r => r.1 = -13 ∧ (∃ j, j < A.n ∧ okO (μ.1 (38 + 3 * d + 2) j) A.p = false) ∧ ag pC μ r.2) o) A.n (by omega) ⟨rfl, fun j hj => absurd hj (Nat.not_lt_zero _), c2, g0⟩ (by
        rintro k ⟨i, m⟩ hk ⟨r1, r2, r3, r4⟩
        simp only at r1 r3 r4; subst r1
        have cell : ∀ a j, 38 ≤ a → m.1 a j = μ.1 a j := fun a j q => r4.1 a j (by unfold pC; omega)
        have wk : WF (A.so (fun f => if f < k then oc (μ.1 (38 + 3 * d + 2) f) else A.ow f)) := w.so fun f hf => by
          show (if f < k then oc (μ.1 (38 + 3 * d + 2) f) else A.ow f) ≤ A.p
          split
          · rename_i q; exact (okO_t (r2 f q) hp).1
          · exact w.owl hf
        have s2 : m.1 (38 + 3 * d) 2 = nI z := (cell _ _ (by omega)).trans e2
        have n1 : m.1 1 0 = nI A.n := by rw [r4.1 1 0 (by unfold pC; omega)]; exact h.hn
        have a1 : Shelf_at (38 + 3 * d) (nI k) m = some (μ.1 (38 + 3 * d + 2) k) := by
          rw [c_at s2 hz, inR_n (by omega), decide_eq_true (by omega), if_pos rfl, nI_clamp (by omega), cell _ _ (by omega)]
        unfold N_chain_s1
        simp only []
        rw [n1, if_pos (nI_lt hk (by omega)), a1]
        simp only [Option.bind_some]
        have gv : Land_give 8 (μ.1 (38 + 3 * d + 2) k) (nI k) m = some (if okO (μ.1 (38 + 3 * d + 2) k) A.p = true ∧ inR (nI k) A.n = true then (true, si m (8 + 2) (nI k).toNatClampNeg (nI (cl (oc (μ.1 (38 + 3 * d + 2) k))))) else (false, m)) := c_give r3 wk _ _
        rw [gv]
        have fr : inR (nI k) A.n = true := by rw [inR_n (by omega), decide_eq_true hk]
        cases gd : okO (μ.1 (38 + 3 * d + 2) k) A.p
        · rw [if_neg (show ¬ (false = true ∧ inR (nI k) A.n = true) from fun q => by cases q.1)]
          exact Or.inr ⟨_, rfl, rfl, ⟨k, hk, gd⟩, r4⟩
        · rw [if_pos (show true = true ∧ inR (nI k) A.n = true from ⟨rfl, fr⟩)]
          have r5 := r3.gv (f := (nI k).toNatClampNeg) (o := oc (μ.1 (38 + 3 * d + 2) k))
          rw [nI_clamp (by omega)] at r5
          rw [nI_clamp (by omega)]
          refine Or.inl ⟨(nI (k + 1), si m (8 + 2) k (nI (cl (oc (μ.1 (38 + 3 * d + 2) k))))), by simp only [Option.bind_some, if_true, li_1, nI_add], rfl, fun j hj => ?_, ?_, ag_st r4 (Or.inl (by omega))⟩
          · by_cases e : j = k
            · rw [e]; exact gd
            · exact r2 j (by omega)
          · have : (A.so (fun f => if f < k then oc (μ.1 (38 + 3 * d + 2) f) else A.ow f)).gv k (oc (μ.1 (38 + 3 * d + 2) k)) = A.so (fun f => if f < k + 1 then oc (μ.1 (38 + 3 * d + 2) f) else A.ow f) := by
              rw [so_gv]
              congr 1
              funext f
              by_cases e : f = k
              · rw [if_pos e, if_pos (by omega), e]
              · rw [if_neg e]
                by_cases e2 : f < k
                · rw [if_pos e2, if_pos (by omega)]
                · rw [if_neg e2, if_neg (by omega)]
            rw [this] at r5
            exact r5) (by
        rintro ⟨i, m⟩ ⟨r1, r2, r3, r4⟩
        simp only at r1 r3 r4; subst r1
        have n1 : m.1 1 0 = nI A.n := by rw [r4.1 1 0 (by unfold pC; omega)]; exact h.hn
        refine ⟨.inl m, ?_, r2, r3, r4⟩
        simp only [N_chain_s1, n1, if_neg (nI_nlt (Nat.le_refl _) (show A.n < 2 ^ 31 by omega))])
    rw [show (nI 0 : Int32) = 0 from rfl] at q1
    rw [q1]
    simp only [Option.bind_some]
    rcases o with m | ⟨r, m⟩
    · obtain ⟨y1, y2, y3⟩ := q2
      have h1m : CR 1 A m := h.tg y3 (fun a j z1 z2 z3 => by unfold pC at z3; omega)
      obtain ⟨r, m', u1, u2, u3⟩ := c_chBetween h1m y2 w (fun f hf => by
        rw [if_pos hf]; exact (okO_t (y1 f hf) hp).1)
      have ce : cut A.n (fun f => if f < A.n then oc (μ.1 (38 + 3 * d + 2) f) else A.ow f) = cut A.n (fun f => oc (μ.1 (38 + 3 * d + 2) f)) := by
        funext f
        by_cases q : f < A.n
        · rw [cut_in q, cut_in q, if_pos q]
        · unfold cut; rw [if_neg q, if_neg q]
      rw [ce] at u2
      simp only [Sum.elim_inl]
      rw [u1]
      refine ⟨r, m', rfl, ag_tr y3 u3, fun q => ?_, fun _ => u2⟩
      unfold chOk at q
      rw [decide_eq_true ez, al_iff.mpr y1] at q; cases q
    · obtain ⟨y1, ⟨j, y2, y4⟩, y3⟩ := q2
      have y1 : r = -13 := y1
      refine ⟨r, m, rfl, y3, fun _ => y1, fun q => ?_⟩
      unfold chOk at q
      rw [Bool.and_eq_true] at q
      rw [al_iff.mp q.2 j y2] at y4; cases y4
  · rw [if_pos (fun q => ez ((nI_eq (by omega) (by omega)).mp q))]
    refine ⟨-13, μ, rfl, ag_rf _ _, fun _ => rfl, fun q => ?_⟩
    unfold chOk at q
    rw [decide_eq_false ez] at q; cases q
